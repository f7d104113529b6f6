/-! Shear; what is kept; how many there are. -/
theorem pm_sloop {s : Nat} {x2 : Int32} (hs : s < 6) (τ : sw_St) : L_X11_shear_54 sw_fuel τ (nI s) x2 1 = some (x2, sw_uI (sw_uI (sw_uI τ 37 (13 + 12 * s) 0) 37 (14 + 12 * s) 0) 37 (15 + 12 * s) 0) := by
  obtain ⟨f, hf⟩ : ∃ f, sw_fuel = f + 4 := ⟨sw_fuel - 4, by have := sw_fuel_ge; omega⟩
  have st : ∀ (f k : Nat) (τ : sw_St), k < 4 → L_X11_shear_54 (f + 1) τ (nI s) x2 (nI k) = L_X11_shear_54 f (sw_uI τ 37 (12 + 12 * s + k) 0) (nI s) x2 (nI (k + 1)) := fun f k τ hk => by
    show S_X11_shear_54 _ τ (nI s) x2 (nI k) = _
    unfold S_X11_shear_54
    rw [if_neg (show ¬ (4 : Int32) ≤ nI k from nI_ge (b := 4) hk (by omega)), pm_ix, nI_add, if_pos (pz_inb (by omega) (by omega)), nI_clamp (by omega), nI_1]
  rw [hf, show (1 : Int32) = nI 1 from rfl, st (f + 3) 1 τ (by omega), st (f + 2) 2 _ (by omega), st (f + 1) 3 _ (by omega)]
  show S_X11_shear_54 _ _ (nI s) x2 (nI 4) = _
  unfold S_X11_shear_54
  rw [if_pos (by decide), show 12 + 12 * s + 1 = 13 + 12 * s by omega, show 12 + 12 * s + 2 = 14 + 12 * s by omega, show 12 + 12 * s + 3 = 15 + 12 * s by omega]
theorem op_25 : ll_25 RR := by
  intro x m hR a
  obtain ⟨w, l, P, nm, D, U, F, T, sd, rf, ft, im, hG, hX, hM⟩ := hR
  have hR : RR x m := ⟨w, l, P, nm, D, U, F, T, sd, rf, ft, im, hG, hX, hM⟩
  have g1 := hG.1.2.1
  have g2 := hG.1.2.2.1
  have hno : RR (sw_uI x 226 2 (x.1 226 2 + 1)) (sw_uI m 2 2 (m.1 2 2 + 1)) := hR.ref (by omega)
  have rx : (F_X10_refuse x 2).bind (fun q1 => some (q1.1, q1.2)) = some (-1, sw_uI x 226 2 (x.1 226 2 + 1)) := by
    rw [show (2 : Int32) = nI 2 from rfl, px_refuse (by omega)]
    rfl
  have rm : (F_X11_refuses m 2).bind (fun q1 => some (q1.1, q1.2)) = some (-1, sw_uI m 2 2 (m.1 2 2 + 1)) := by
    rw [show (2 : Int32) = nI 2 from rfl, pm_refuses (by omega)]
    rfl
  unfold F_X10_shear F_X11_shear S_X10_shear_20 S_X11_shear_16
  rw [px_isSheep hG.1 hX.1, pm_isSheep hG.1 hM.1]
  dsimp only [Option.bind]
  by_cases h : g_in a (l 0 2) = true
  · obtain ⟨s, hs, rfl⟩ := g_in_of h
    obtain ⟨hr, hf⟩ := hG.2.2.1.2.2.2.1 s hs
    have hd : D.1 0 ≤ 999 := hG.2.2.1.1
    have hpu := hG.2.2.1.2.1
    have hi : sw_inb (nI s) 6 = true := pz_inb (by omega) (by omega)
    have hmv := hM.2.2.1.vw hM.1 hs g2 hM.2.2.2.2.2.2.2.2.2.2.1.1
    have e1 : x.1 40 s = nI (D.2.1 s 1) := (hX.2.2.2.1.2.2.2.1 s hs).2.1
    have e2 : m.1 37 (13 + 12 * s) = nI (D.2.1 s 1) := by
      rw [show 13 + 12 * s = 12 + 12 * s + 1 by omega]
      exact hmv.2.2.1 1 (by omega)
    rw [if_pos h, if_neg pz_10, if_neg pz_10, if_pos hi, nI_clamp (by omega), e1, pm_woolOf (by omega)]
    dsimp only
    rw [e2]
    by_cases hz : nI (D.2.1 s 1) = 0
    · rw [if_pos hz, if_pos hz]
      exact ⟨-1, _, _, rx, rm, hno⟩
    · rw [if_neg hz, if_neg hz]
      obtain ⟨σ1, p1, p2⟩ := hX.keep hG
      obtain ⟨τ1, q1, q2⟩ := hM.keep hG
      have hxv1 := p2.2.2.2.1.vw (Or.inl rfl) hs g2
      have hmv1 := q2.2.2.1.vw q2.1 hs g2 q2.2.2.2.2.2.2.2.2.2.2.1.1
      obtain ⟨σ2, c1, c2, c3, c4⟩ := px_worth (B := []) hG.1 p2.1 hxv1 hr (by omega) (by simp) trivial p2.2.2.2.2.2.2.2.2.2.2.2.1
      obtain ⟨τ2, d1, d2⟩ := pm_worth hG.1 q2.1 hmv1 hr (by omega)
      have p3 := p2.mv (c2.mono (by decide)) c4
      have q3 := q2.mv (d2.mono (by decide) (by decide))
      have hw9 := g_worth_le l P (D.1 0) (l 3 (2 * s + 1)) (D.2.1 s) s
      generalize hv : g_worth l P (D.1 0) (l 3 (2 * s + 1)) (D.2.1 s) s = v at c1 d1 hw9
      have mx : F_J9_min_7cf53 σ2 99999 (σ2.1 38 1 + nI v) = some (nI (min 99999 (D.1 1 + v)), σ2) := by
        rw [p3.2.2.2.1.2.1, nI_add]
        exact px_min (a := 99999) (by omega) (by omega)
      have mm : F_X11_least τ2 99999 (τ2.1 37 1 + nI v) = some (nI (min 99999 (D.1 1 + v)), τ2) := by
        rw [show τ2.1 37 1 = nI (D.1 1) from q3.2.2.1.2.1, nI_add]
        exact pm_least (a := 99999) (by omega) (by omega)
      rw [p1, q1]
      dsimp only
      rw [c1, d1]
      dsimp only
      rw [mx, mm]
      dsimp only
      rw [if_pos hi, if_pos hi, if_pos hi, if_pos (show sw_inb 1 245 = true from pz_inb (n := 1) (by omega) (by omega)), show (1 : Int32).toNatClampNeg = 1 from by decide, pm_sloop (by omega)]
      have hdk : g_dk l (g_dr (g_d1 D 1 (min 99999 (D.1 1 + v))) s (fun j => if j = 1 ∨ j = 2 ∨ j = 3 then 0 else D.2.1 s j)) := by
        obtain ⟨r1, r2, r3, r4, r5, r6⟩ := hr
        have h0 : g_dk l (g_d1 D 1 (min 99999 (D.1 1 + v))) := ⟨hG.2.2.1.1, by show min 99999 _ ≤ 99999; omega, hG.2.2.1.2.2⟩
        refine h0.row ⟨r1, ?_, ?_, ?_, ?_, fun f hf => ?_⟩ ?_ (fun j h1 h2 => by (try dsimp only); rw [if_neg (by omega)]; exact hG.2.2.1.2.2.2.2.2.2 s j hs h1 h2)
        · (try dsimp only); rw [if_neg (by omega)]; exact r2
        · (try dsimp only); rw [if_pos (by omega)]; omega
        · (try dsimp only); rw [if_pos (by omega)]; omega
        · (try dsimp only); rw [if_pos (by omega)]; omega
        · (try dsimp only); rw [if_neg (by omega)]; exact r6 f hf
        · (try dsimp only); rw [if_neg (by omega)]; exact hf
      refine ⟨_, _, _, rfl, rfl, w, l, P, nm, _, (D :: U).take 20, F, T, sd, rf, ft, im, hG.keep hdk, ?_, ?_⟩
      · have ms : pz_sm [38, 40, 41, 42] σ2 (sw_uI (sw_uI (sw_uI (sw_uI σ2 38 1 (nI (min 99999 (D.1 1 + v)))) 40 s 0) 41 s 0) 42 s 0) := ((((pz_sm.refl _ σ2).I (by decide) _ _).I (by decide) _ _).I (by decide) _ _).I (by decide) _ _
        obtain ⟨k1, k2, k3, k4, kf, l1, l2, l3, l4⟩ := p3.2.2.2.1
        refine p3.setD ms (by decide) ⟨?_, ?_, ?_, fun t ht => ?_, kf, l1, ?_, ?_, fun i hi => ?_⟩ (by rw [ms.r (by decide)]; exact c4)
        · rw [pz_Io (by decide), pz_Io (by decide), pz_Io (by decide), pz_Ik (by decide)]; exact k1
        · rw [pz_Io (by decide), pz_Io (by decide), pz_Io (by decide), pz_Ie rfl rfl]; rfl
        · rw [pz_Io (by decide), pz_Io (by decide), pz_Io (by decide), pz_Ik (by decide)]; exact k3
        · obtain ⟨s1, s2, s3, s4, s5, s6⟩ := k4 t ht
          unfold g_dr g_d1
          dsimp only
          by_cases e : t = s
          · subst e
            rw [if_pos rfl]
            refine ⟨?_, ?_, ?_, ?_, ?_, fun f hf => ?_⟩
            · (try dsimp only); rw [pz_Io (by decide), pz_Io (by decide), pz_Io (by decide), pz_Io (by decide), if_neg (by omega)]; exact s1
            · (try dsimp only); rw [pz_Io (by decide), pz_Io (by decide), pz_Ie rfl rfl, if_pos (by omega)]; rfl
            · (try dsimp only); rw [pz_Io (by decide), pz_Ie rfl rfl, if_pos (by omega)]; rfl
            · (try dsimp only); rw [pz_Ie rfl rfl, if_pos (by omega)]; rfl
            · rw [pz_Io (by decide), pz_Io (by decide), pz_Io (by decide), pz_Io (by decide)]; exact s5
            · (try dsimp only); rw [pz_Io (by decide), pz_Io (by decide), pz_Io (by decide), pz_Io (by decide), if_neg (by omega)]; exact s6 f hf
          · rw [if_neg e]
            refine ⟨?_, ?_, ?_, ?_, ?_, fun f hf => ?_⟩
            · rw [pz_Io (by decide), pz_Io (by decide), pz_Io (by decide), pz_Io (by decide)]; exact s1
            · rw [pz_Io (by decide), pz_Io (by decide), pz_Ik e, pz_Io (by decide)]; exact s2
            · rw [pz_Io (by decide), pz_Ik e, pz_Io (by decide), pz_Io (by decide)]; exact s3
            · rw [pz_Ik e, pz_Io (by decide), pz_Io (by decide), pz_Io (by decide)]; exact s4
            · rw [pz_Io (by decide), pz_Io (by decide), pz_Io (by decide), pz_Io (by decide)]; exact s5
            · rw [pz_Io (by decide), pz_Io (by decide), pz_Io (by decide), pz_Io (by decide)]; exact s6 f hf
        · rw [pz_Io (by decide), pz_Io (by decide), pz_Io (by decide), pz_Ik (by decide)]; exact l2
        · rw [pz_Io (by decide), pz_Io (by decide), pz_Io (by decide), pz_Ik (by decide)]; exact l3
        · rw [pz_Io (by decide), pz_Io (by decide), pz_Io (by decide), pz_Io (by decide)]; exact l4 i hi
      · have hP : pm_st (sw_uI τ2 37 1 (nI (min 99999 (D.1 1 + v)))) 37 0 l (g_d1 D 1 (min 99999 (D.1 1 + v))) := by
          obtain ⟨k1, k2, k3, k4, k5, k6⟩ := q3.2.2.1
          refine ⟨by rw [pz_Ik (by decide)]; exact k1, pz_Ie rfl rfl, fun j hj => by rw [pz_Ik (by omega)]; exact k3 j hj, fun t j ht hj => by rw [pz_Ik (by omega)]; exact k4 t j ht hj, by rw [pz_Ik (by omega)]; exact k5, fun i hi => ?_⟩
          rw [pz_Ik (by omega), pz_Ik (by omega), pz_Ik (by omega), pz_Ik (by omega)]
          exact k6 i hi
        refine q3.setD (S := [37]) (K := []) (((((pm_sm.refl _ _ τ2).I (by decide) (by decide) _ _).I (by decide) (by decide) _ _).I (by decide) (by decide) _ _).I (by decide) (by decide) _ _) (by decide) (by decide) (hP.row g1 g2 (by omega) (fun i hi => by rw [pz_Ik (by omega), pz_Ik (by omega), pz_Ik (by omega)]) (fun j hj => ?_))
        (try dsimp only)
        by_cases j1 : j = 1
        · rw [pz_Ik (by omega), pz_Ik (by omega), pz_Ie rfl (by omega), if_pos (by omega)]; rfl
        by_cases j2 : j = 2
        · rw [pz_Ik (by omega), pz_Ie rfl (by omega), if_pos (by omega)]; rfl
        by_cases j3 : j = 3
        · rw [pz_Ie rfl (by omega), if_pos (by omega)]; rfl
        rw [pz_Ik (by omega), pz_Ik (by omega), pz_Ik (by omega), if_neg (by omega)]
        have := hP.2.2.2.1 s j hs hj
        rwa [Nat.zero_add] at this
  · rw [if_neg h, if_pos rfl, if_pos rfl]
    exact ⟨-1, _, _, rx, rm, hno⟩
theorem op_12 : ll_12 RR := by
  intro x m hR a b
  obtain ⟨w, l, P, nm, D, U, F, T, sd, rf, ft, im, hG, hX, hM⟩ := hR
  have hR : RR x m := ⟨w, l, P, nm, D, U, F, T, sd, rf, ft, im, hG, hX, hM⟩
  have h40 := hG.2.2.1.2.2.2.2.1
  obtain ⟨kf, d1, d2, d3, d4⟩ := hX.2.2.2.1.2.2.2.2
  have m84 : m.1 37 84 = nI D.2.2.length := by
    have := hM.2.2.1.2.2.2.2.1
    rwa [Nat.zero_add] at this
  unfold F_X10_kept F_X11_kept S_X10_kept_15 S_X10_kept_28 S_X11_kept_47 S_X11_kept_48
  rw [d3, pm_in0 m a (n := D.2.2.length) (by omega) m84]
  dsimp only [Option.bind]
  by_cases h : g_in a D.2.2.length = true
  · obtain ⟨k, hk, rfl⟩ := g_in_of h
    have hmk := hM.2.2.1.2.2.2.2.2 k hk
    simp only [Nat.zero_add] at hmk
    obtain ⟨y1, y2, y3, y4⟩ := hG.2.2.1.2.2.2.2.2.1 (D.2.2.getD k (0, 0, 0, 0)) (by rw [List.getD_eq_getElem?_getD, List.getElem?_eq_getElem hk]; exact List.getElem_mem hk)
    have hmod : (kf + k) % 40 < 40 := Nat.mod_lt _ (by omega)
    have e40 : nI kf + nI k - (nI kf + nI k) / 40 * 40 = nI ((kf + k) % 40) := by
      rw [nI_add, show (40 : Int32) = nI 40 from rfl, pk_rem (by omega) (by omega) (by omega)]
    have hpk := d4 k hk
    generalize D.2.2.getD k (0, 0, 0, 0) = y at hmk y1 y2 y3 y4 hpk
    obtain ⟨z1, z2, z3, z4⟩ := y
    dsimp only at hmk y1 y2 y3 y4
    have hb : g_pk (z1, z2, z3, z4) < 2 ^ 31 := by unfold g_pk; dsimp only; omega
    have q1 : g_pk (z1, z2, z3, z4) / 1000 / 10 / 6 = z1 := by unfold g_pk; dsimp only; omega
    have q2 : g_pk (z1, z2, z3, z4) / 1000 / 10 % 6 = z2 := by unfold g_pk; dsimp only; omega
    have q3 : g_pk (z1, z2, z3, z4) / 1000 % 10 = z3 := by unfold g_pk; dsimp only; omega
    have q4 : g_pk (z1, z2, z3, z4) % 1000 = z4 := by unfold g_pk; dsimp only; omega
    generalize g_pk (z1, z2, z3, z4) = G at hpk hb q1 q2 q3 q4
    have t1 : nI (G) / 1000 = nI (G / 1000) := pk_div (d := 1000) hb (by omega) (by omega)
    have t2 : nI (G / 1000) / 10 = nI (G / 1000 / 10) := pk_div (d := 10) (by omega) (by omega) (by omega)
    have t3 : nI (G / 1000 / 10) / 6 = nI z1 := by
      rw [← q1]
      exact pk_div (d := 6) (by omega) (by omega) (by omega)
    have t4 : nI (G / 1000 / 10) - nI (G / 1000 / 10) / 6 * 6 = nI z2 := by
      rw [← q2]
      exact pk_rem (d := 6) (by omega) (by omega) (by omega)
    have t5 : nI (G / 1000) - nI (G / 1000) / 10 * 10 = nI z3 := by
      rw [← q3]
      exact pk_rem (d := 10) (by omega) (by omega) (by omega)
    have t6 : nI (G) - nI (G) / 1000 * 1000 = nI z4 := by
      rw [← q4]
      exact pk_rem (d := 1000) hb (by omega) (by omega)
    rw [if_pos h, if_neg pz_10, if_neg (nI_pos (by omega)), if_pos (nI_lt hk (by omega)), pm_inL m b 3 (by decide)]
    dsimp only
    unfold F_X8_keptPart
    rw [if_pos (st_O (Or.inl rfl)), if_pos (st_O (Or.inl rfl)), if_pos (st_A7 (Or.inl rfl)), st_n7 (Or.inl rfl), d2, e40, if_pos (pz_inb hmod (by omega)), nI_clamp (by omega), hpk, t6, t1, t5, t2, t4, t3]
    have mg : ∀ j, j < 4 → (if sw_inb (85 + 4 * nI k + nI j) 245 = true then some (m.1 37 (85 + 4 * nI k + nI j).toNatClampNeg, m) else none) = some (m.1 37 (85 + 4 * k + j), m) := fun j hj => by
      rw [pm_ix, nI_add, if_pos (pz_inb (by omega) (by omega)), nI_clamp (by omega)]
    by_cases h4 : g_in b 4 = true
    · obtain ⟨j, hj, rfl⟩ := g_in_of h4
      rw [if_pos h4, if_neg pz_10, mg j hj]
      have k1 : j = 0 ∨ j = 1 ∨ j = 2 ∨ j = 3 := by omega
      rcases k1 with rfl | rfl | rfl | rfl
      · exact ⟨_, x, m, by rw [if_pos (by decide)], by rw [Nat.add_zero, hmk.1], hR⟩
      · exact ⟨_, x, m, by rw [if_neg (by decide), if_pos (by decide)], by rw [hmk.2.1], hR⟩
      · exact ⟨_, x, m, by rw [if_neg (by decide), if_neg (by decide), if_pos (by decide)], by rw [hmk.2.2.1], hR⟩
      · exact ⟨_, x, m, by rw [if_neg (by decide), if_neg (by decide), if_neg (by decide), if_pos (by decide)], by rw [hmk.2.2.2], hR⟩
    · rw [if_neg h4, if_pos rfl]
      have hne : ∀ j, j < 4 → ¬ b = nI j := fun j hj z => h4 (by rw [z]; exact g_in_nI hj (by omega))
      exact ⟨-1, x, m, by rw [if_neg (show ¬ b = 0 from hne 0 (by omega)), if_neg (show ¬ b = 1 from hne 1 (by omega)), if_neg (show ¬ b = 2 from hne 2 (by omega)), if_neg (show ¬ b = 3 from hne 3 (by omega))], rfl, hR⟩
  · rw [if_neg h, if_pos rfl]
    refine ⟨-1, x, m, ?_, rfl, hR⟩
    rcases g_in_no h (by omega) with q | ⟨q1, q2, q3⟩
    · rw [if_pos q]
    · rw [if_neg q1, if_neg q3]
/-! Bits counted. -/
def g_pc (n : Nat) : Nat := ((List.range 10).filter (fun k => n.testBit k)).length
theorem px_bc {σ : sw_St} {n : Nat} (hn : n < 1024) : F_J6_bitCount_0f7a4 σ (nI n) = some (nI (g_pc n), σ) := by
  unfold F_J6_bitCount_0f7a4
  congr 2
  revert n
  decide +kernel
theorem g_pc_step : ∀ n, n < 1024 → 0 < n → n &&& (n - 1) < n ∧ g_pc (n &&& (n - 1)) + 1 = g_pc n := by decide +kernel
theorem pm_bloop {τ : sw_St} : ∀ (fuel n acc : Nat), n < 1024 → n < fuel → L_X11_bits_4 fuel τ (nI acc) (nI n) = some (nI (acc + g_pc n), τ)
  | fuel + 1, n, acc, hn, hf => by
    show S_X11_bits_4 _ τ (nI acc) (nI n) = _
    unfold S_X11_bits_4
    by_cases h0 : n = 0
    · rw [if_pos (by rw [h0]; rfl), h0]
      rfl
    · obtain ⟨h1, h2⟩ := g_pc_step n hn (by omega)
      have e : nI n - 1 = nI (n - 1) := by
        have := nI_pred (n - 1)
        rwa [show n - 1 + 1 = n by omega] at this
      rw [if_neg (nI_ne0 (by omega) (by omega)), e, fa_and, nI_1]
      dsimp only
      rw [pm_bloop fuel (n &&& (n - 1)) (acc + 1) (by omega) (by omega), ← h2]
      congr 3
      omega
theorem pm_bits {τ : sw_St} {n : Nat} (hn : n < 1024) : F_X11_bits τ (nI n) = some (nI (g_pc n), τ) := by
  have := pm_bloop (τ := τ) sw_fuel n 0 hn (by have := sw_fuel_ge; omega)
  rwa [Nat.zero_add] at this
theorem g_pc_ct : ∀ k, k < 11 → ∀ n, n < 2 ^ k → fb_ct (fun j => n.testBit j) k = g_pc n := by decide +kernel

/-! Days, days by the seed, shear, undo. -/
theorem nI_all (x : Int32) : ∃ c, x = nI c := ⟨x.toBitVec.toNat, by
  apply Int32.toBitVec_inj.mp
  unfold nI
  rw [Int32.toBitVec_ofNat']
  simp⟩
theorem RX.seed {σ : sw_St} {w : Nat} {l : Nat → Nat → Nat} {P : Nat → List Nat} {nm : g_N} {D : g_D} {U : List g_D} {F : List (Nat × Nat × Nat)} {T : List Nat} {sd : Nat} {rf : Nat → Int32} {ft : Int32 × Int32} {im : List Nat} (h : RX σ w l P nm D U F T sd rf ft im) (j : Nat) : RX (sw_uI σ 0 13 (nI j)) w l P nm D U F T j rf ft im := by
  have ms : pz_sm [0] σ (sw_uI σ 0 13 (nI j)) := (pz_sm.refl _ σ).I (by decide) _ _
  exact h.gen ms (by decide) rfl (h.2.2.2.1.mv (fun i hi => (ms _ (by simp)).1)) (h.2.2.2.2.1.mv ms (by decide)) (h.2.2.2.2.2.1.mv (ms.r (by decide) 4) (ms 55 (by decide)).1) (h.2.2.2.2.2.2.1.mv (pz_Ik (by decide) 0) (ms 1 (by decide)).1) (pz_Ie rfl rfl) (fun i hi => by rw [ms.r (by decide)]; exact h.2.2.2.2.2.2.2.2.1 i hi) (by rw [ms.r (by decide), ms.r (by decide)]; exact h.2.2.2.2.2.2.2.2.2.1) (h.2.2.2.2.2.2.2.2.2.2.1.mv (ms.r (by decide) 1) (ms 225 (by decide)).1) (by rw [ms.r (by decide)]; exact h.2.2.2.2.2.2.2.2.2.2.2.1) (h.2.2.2.2.2.2.2.2.2.2.2.2.mv (ms 54 (by decide)).2.2)
theorem RM.seed {τ : sw_St} {l : Nat → Nat → Nat} {P : Nat → List Nat} {nm : g_N} {D : g_D} {U : List g_D} {F : List (Nat × Nat × Nat)} {T : List Nat} {sd : Nat} {rf : Nat → Int32} {ft : Int32 × Int32} {im : List Nat} (h : RM τ l P nm D U F T sd rf ft im) (j : Nat) : RM (sw_uL τ 0 69 (lN j)) l P nm D U F T j rf ft im :=
  h.gen h.1 (by funext k; exact pz_Lo (by decide) k) h.2.2.1 h.2.2.2.1 h.2.2.2.2.1 h.2.2.2.2.2.1 (pz_Le rfl rfl) h.2.2.2.2.2.2.2.1 h.2.2.2.2.2.2.2.2.1 h.2.2.2.2.2.2.2.2.2.1 h.2.2.2.2.2.2.2.2.2.2.1 h.2.2.2.2.2.2.2.2.2.2.2
theorem RX.day {σ : sw_St} {w : Nat} {l : Nat → Nat → Nat} {P : Nat → List Nat} {nm : g_N} {D : g_D} {U : List g_D} {F : List (Nat × Nat × Nat)} {T : List Nat} {sd : Nat} {rf : Nat → Int32} {ft : Int32 × Int32} {im : List Nat} (hg : g_ld l P) (hk : g_dk l D) (hd : D.1 0 + 1 ≤ 999) (h : RX σ w l P nm D U F T sd rf ft im) : ∃ σ', F_X2_passDay σ 38 = some (nI (g_dayc l P D), σ') ∧ RX σ' w l P nm (g_day l P D) U F T sd rf ft im := by
  obtain ⟨σ', p1, p2, p3, p4⟩ := px_passDay hg h.1 h.2.2.2.1 hk h.2.2.2.2.2.2.2.2.2.2.2.1 hd
  exact ⟨σ', p1, h.setD p3 (by decide) p2 p4⟩
theorem RM.day {τ : sw_St} {l : Nat → Nat → Nat} {P : Nat → List Nat} {nm : g_N} {D : g_D} {U : List g_D} {F : List (Nat × Nat × Nat)} {T : List Nat} {sd : Nat} {rf : Nat → Int32} {ft : Int32 × Int32} {im : List Nat} {c : Nat} (hg : g_ld l P) (hk : g_dk l D) (h : RM τ l P nm D U F T sd rf ft im) (h59 : τ.1 0 59 = nI c) : ∃ τ', F_X11_dayGoes τ = some ((), τ') ∧ RM τ' l P nm (g_day l P D) U F T sd rf ft im ∧ τ'.1 0 59 = nI (c + g_dayc l P D) := by
  obtain ⟨τ', p1, p2, p3, p4⟩ := pm_dayGoes hg h.1 h.2.2.1 hk h.2.2.2.2.2.2.2.2.2.2.1.1 h.2.2.2.2.2.2.2.2.2.2.1.2 h59
  exact ⟨τ', p1, h.setD p3 (by decide) (by decide) p2, p4⟩
def g_dn (l : Nat → Nat → Nat) (P : Nat → List Nat) : Nat → g_D → Nat → g_D × Nat
  | 0, D, c => (D, c)
  | n + 1, D, c => g_dn l P n (g_day l P D) (c + g_dayc l P D)
theorem g_dn_dk {l : Nat → Nat → Nat} {P : Nat → List Nat} (hg : g_ld l P) : ∀ (n : Nat) (D : g_D) (c : Nat), g_dk l D → D.1 0 + n ≤ 999 → g_dk l (g_dn l P n D c).1
  | 0, _, _, h, _ => h
  | n + 1, D, c, h, hd => g_dn_dk hg n _ _ (g_day_dk hg h (by omega)) (by show (D.1 0 + 1) + n ≤ 999; omega)
theorem px_nloop {w : Nat} {l : Nat → Nat → Nat} {P : Nat → List Nat} {nm : g_N} {U : List g_D} {F : List (Nat × Nat × Nat)} {T : List Nat} {sd : Nat} {rf : Nat → Int32} {ft : Int32 × Int32} {im : List Nat} {N : Nat} (hg : g_ld l P) (hN : N ≤ 1000) : ∀ (n fuel k c : Nat) (D : g_D) (σ : sw_St), RX σ w l P nm D U F T sd rf ft im → g_dk l D → k + n = N → n < fuel → D.1 0 + n ≤ 999 → ∃ σ', L_X10_days_36 fuel σ (nI N) (nI c) (nI k) = some (nI (g_dn l P n D c).2, σ') ∧ RX σ' w l P nm (g_dn l P n D c).1 U F T sd rf ft im
  | 0, fuel + 1, k, c, D, σ, h, hk, hn, hf, hd => by
    refine ⟨σ, ?_, h⟩
    show S_X10_days_36 _ σ (nI N) (nI c) (nI k) = _
    unfold S_X10_days_36
    rw [if_pos (nI_le (by omega) (by omega))]
    rfl
  | n + 1, fuel + 1, k, c, D, σ, h, hk, hn, hf, hd => by
    obtain ⟨σ1, p1, p2⟩ := h.day hg hk (by omega)
    obtain ⟨σ2, q1, q2⟩ := px_nloop hg hN n fuel (k + 1) (c + g_dayc l P D) (g_day l P D) σ1 p2 (g_day_dk hg hk (by omega)) (by omega) (by omega) (by show (D.1 0 + 1) + n ≤ 999; omega)
    refine ⟨σ2, ?_, q2⟩
    show S_X10_days_36 _ σ (nI N) (nI c) (nI k) = _
    unfold S_X10_days_36
    rw [if_neg (nI_ge (by omega) (by omega)), p1]
    dsimp only [Option.bind]
    rw [nI_add, nI_1]
    exact q1
theorem pm_nloop {l : Nat → Nat → Nat} {P : Nat → List Nat} {nm : g_N} {U : List g_D} {F : List (Nat × Nat × Nat)} {T : List Nat} {sd : Nat} {rf : Nat → Int32} {ft : Int32 × Int32} {im : List Nat} {N : Nat} (hg : g_ld l P) (hN : N ≤ 1000) : ∀ (n fuel k c : Nat) (D : g_D) (τ : sw_St), RM τ l P nm D U F T sd rf ft im → g_dk l D → τ.1 0 59 = nI c → k + n = N → n < fuel → D.1 0 + n ≤ 999 → ∃ τ', L_X11_daysGo_2 fuel τ (nI N) (nI k) = some ((), τ') ∧ RM τ' l P nm (g_dn l P n D c).1 U F T sd rf ft im ∧ τ'.1 0 59 = nI (g_dn l P n D c).2
  | 0, fuel + 1, k, c, D, τ, h, hk, h59, hn, hf, hd => by
    refine ⟨τ, ?_, h, h59⟩
    show S_X11_daysGo_2 _ τ (nI N) (nI k) = _
    unfold S_X11_daysGo_2
    rw [if_pos (nI_le (by omega) (by omega))]
  | n + 1, fuel + 1, k, c, D, τ, h, hk, h59, hn, hf, hd => by
    obtain ⟨τ1, p1, p2, p3⟩ := h.day hg hk h59
    obtain ⟨τ2, q1, q2, q3⟩ := pm_nloop hg hN n fuel (k + 1) (c + g_dayc l P D) (g_day l P D) τ1 p2 (g_day_dk hg hk (by omega)) p3 (by omega) (by omega) (by show (D.1 0 + 1) + n ≤ 999; omega)
    refine ⟨τ2, ?_, q2, q3⟩
    show S_X11_daysGo_2 _ τ (nI N) (nI k) = _
    unfold S_X11_daysGo_2
    rw [if_neg (nI_ge (by omega) (by omega)), p1]
    dsimp only [Option.bind]
    rw [nI_1]
    exact q1
theorem px_refC (x : sw_St) : (F_X10_refuse x 3).bind (fun q1 => some (q1.1, q1.2)) = some (-1, sw_uI x 226 3 (x.1 226 3 + 1)) := by
  rw [show (3 : Int32) = nI 3 from rfl, px_refuse (by omega)]
  rfl
theorem pm_refuses {m : sw_St} {j : Nat} (hj : j < 6) : F_X11_refuses m (nI j) = some (-1, sw_uI m 2 j (m.1 2 j + 1)) := by
  unfold F_X11_refuses
  rw [if_pos (pz_inb hj (by omega)), if_pos (pz_inb hj (by omega)), nI_clamp (by omega)]
/-- days that can come, from one on -/
theorem g_cm1 {a : Int32} {most day : Nat} (h : ¬ a < 1) : g_cm a 0 most day = g_cm a 1 most day := by
  rw [fa_lt, show (1 : Int32).toInt = 1 from by decide] at h
  unfold g_cm
  congr 1
  apply propext
  constructor
  · intro z; omega
  · intro z; omega
theorem g_cm0 {a : Int32} {most day : Nat} (h : a < 1) : g_cm a 1 most day = false := by
  rw [fa_lt, show (1 : Int32).toInt = 1 from by decide] at h
  unfold g_cm
  exact decide_eq_false (by omega)
theorem op_29 : ll_29 RR := by
  intro x m hR a
  obtain ⟨w, l, P, nm, D, U, F, T, sd, rf, ft, im, hG, hX, hM⟩ := hR
  have hR : RR x m := ⟨w, l, P, nm, D, U, F, T, sd, rf, ft, im, hG, hX, hM⟩
  have hd := hG.2.2.1.1
  have hno : RR (sw_uI x 226 3 (x.1 226 3 + 1)) (sw_uI m 2 3 (m.1 2 3 + 1)) := hR.ref (by omega)
  unfold F_X10_days F_X11_days S_X10_days_15
  rw [px_refC, show F_X11_isAhead m a 1 100 = _ from pm_ahead (lo := 1) (most := 100) hd (by omega) (by omega) hM.2.2.1.1, show F_X10_canCome x a 100 = _ from px_can (most := 100) hd (by omega) hX.2.2.2.1.1]
  dsimp only [Option.bind]
  by_cases h1 : a < 1
  · rw [if_pos h1, g_cm0 h1, if_neg (show ¬ false = true by decide), if_pos rfl, show (3 : Int32) = nI 3 from rfl, pm_refuses (by omega)]
    exact ⟨-1, _, _, rfl, rfl, hno⟩
  rw [if_neg h1, g_cm1 h1]
  by_cases h : g_cm a 1 100 (D.1 0) = true
  · obtain ⟨n, hn1, hn2, hn3, rfl⟩ := g_cm_of h
    obtain ⟨σ1, p1, p2⟩ := hX.keep hG
    obtain ⟨τ1, q1, q2⟩ := hM.keep hG
    have q2' : RM (sw_uI τ1 0 59 0) l P nm D ((D :: U).take 20) F T sd rf ft im := q2.mv ((pm_sm.refl _ _ τ1).K (by decide) _)
    obtain ⟨σ2, r1, r2⟩ := px_nloop (N := n) hG.1 (by omega) n sw_fuel 0 0 D σ1 p2 hG.2.2.1 (by omega) (by have := sw_fuel_ge; omega) hn3
    obtain ⟨τ2, s1, s2, s3⟩ := pm_nloop (N := n) hG.1 (by omega) n sw_fuel 0 0 D (sw_uI τ1 0 59 0) q2' hG.2.2.1 (pz_Ie rfl rfl) (by omega) (by have := sw_fuel_ge; omega) hn3
    rw [if_pos h, if_neg pz_10, if_neg pz_10, p1, q1]
    dsimp only
    have eD : F_X11_daysGo (sw_uI τ1 0 59 0) (nI n) = some ((), τ2) := s1
    rw [eD]
    refine ⟨_, σ2, τ2, r1, ?_, w, l, P, nm, (g_dn l P n D 0).1, (D :: U).take 20, F, T, sd, rf, ft, im, hG.keep (g_dn_dk hG.1 n D 0 hG.2.2.1 hn3), r2, s2⟩
    dsimp only
    rw [s3]
  · rw [if_neg h, if_pos rfl, if_pos rfl, show (3 : Int32) = nI 3 from rfl, pm_refuses (by omega)]
    exact ⟨-1, _, _, rfl, rfl, hno⟩
/-! By the seed. -/
def g_sd (sd : Nat) : Nat := (1103515245 * sd + 12345) % 2147483648
theorem px_draw {σ : sw_St} {sd mm : Nat} (h : σ.1 0 13 = nI sd) (hsd : sd < 2 ^ 31) (hm : 0 < mm) (hm2 : mm ≤ 100) : F_X10_draw σ (nI mm) = some (nI (g_sd sd / 64 % mm), sw_uI σ 0 13 (nI (g_sd sd))) := by
  have hs2 : g_sd sd < 2147483648 := Nat.mod_lt _ (by omega)
  have e : ((1103515245 * (nI sd).toInt64 + 12345) &&& 2147483647 : Int64).toInt32 = nI (g_sd sd) := by
    rw [nI_l hsd, show (1103515245 : Int64) = lN 1103515245 from rfl, show (12345 : Int64) = lN 12345 from rfl, lN_mul, lN_add, show (2147483647 : Int64) = lN (2 ^ 31 - 1) from rfl, fb_maskL, lN_i]
    rfl
  unfold F_X10_draw S_X10_draw_26 S_X10_draw_39
  rw [if_neg (nI_nle hm (by omega)), h, e, if_pos (nI_ne0 hm (by omega)), pz_Ie rfl rfl, show (64 : Int32) = nI 64 from rfl, pk_div (by omega) (by omega) (by omega), pk_rem (by omega) (by omega) (by omega)]
theorem pm_draw {τ : sw_St} {sd mm : Nat} (h : τ.2.1 0 69 = lN sd) (hsd : sd < 2 ^ 31) (hm : 0 < mm) (hm2 : mm ≤ 100) : F_X11_drawOf τ (nI mm) = some (nI (g_sd sd / 64 % mm), sw_uL τ 0 69 (lN (g_sd sd))) := by
  have hs2 : g_sd sd < 2147483648 := Nat.mod_lt _ (by omega)
  have e : ((1103515245 : Int64) * lN sd + 12345) - ((1103515245 : Int64) * lN sd + 12345) / 2147483648 * 2147483648 = lN (g_sd sd) := by
    rw [show (1103515245 : Int64) = lN 1103515245 from rfl, show (12345 : Int64) = lN 12345 from rfl, lN_mul, lN_add, show (2147483648 : Int64) = lN 2147483648 from rfl, pk_lRem (by omega) (by omega) (by omega)]
    rfl
  unfold F_X11_drawOf
  rw [h, e, nI_l (by omega), show (64 : Int64) = lN 64 from rfl, pk_lDiv (by omega) (by omega) (by omega), pk_lRem (by omega) (by omega) (by omega), lN_i, if_pos (show ¬ lN mm = (0 : Int64) from fun z => by rw [show (0 : Int64) = lN 0 from rfl, lN_eq (by omega) (by omega)] at z; omega)]
theorem px_st.opn {σ : sw_St} {l : Nat → Nat → Nat} {D : g_D} (h : px_st σ 38 l D) (v : Nat) : px_st (sw_uI σ 38 2 (nI v)) 38 l (g_d1 D 2 v) := by
  obtain ⟨c1, c2, c3, c4, kf, d1, d2, d3, d4⟩ := h
  refine ⟨by rw [pz_Ik (by decide)]; exact c1, by rw [pz_Ik (by decide)]; exact c2, pz_Ie rfl rfl, fun s hs => ?_, kf, d1, by rw [pz_Ik (by decide)]; exact d2, by rw [pz_Ik (by decide)]; exact d3, fun i hi => by rw [pz_Io (by decide)]; exact d4 i hi⟩
  obtain ⟨s1, s2, s3, s4, s5, s6⟩ := c4 s hs
  exact ⟨by rw [pz_Io (by decide)]; exact s1, by rw [pz_Io (by decide)]; exact s2, by rw [pz_Io (by decide)]; exact s3, by rw [pz_Io (by decide)]; exact s4, by rw [pz_Io (by decide)]; exact s5, fun f hf => by rw [pz_Io (by decide)]; exact s6 f hf⟩
theorem pm_st.opn {τ : sw_St} {l : Nat → Nat → Nat} {D : g_D} {k : Nat} (h : pm_st τ 37 0 l D) (hk : k < l 0 1) (h1 : l 0 1 ≤ 10) : pm_st (sw_uI τ 37 (2 + k) (τ.1 37 (2 + k) ^^^ 1)) 37 0 l (g_d1 D 2 (D.1 2 ^^^ 2 ^ k)) := by
  obtain ⟨c1, c2, c3, c4, c5, c6⟩ := h
  have hb := c3 k hk
  rw [Nat.zero_add] at hb
  refine ⟨by rw [pz_Ik (by omega)]; exact c1, by rw [pz_Ik (by omega)]; exact c2, fun j hj => ?_, fun s j hs hj => by rw [pz_Ik (by omega)]; exact c4 s j hs hj, by rw [pz_Ik (by omega)]; exact c5, fun i hi => ?_⟩
  · show _ = nI (if (D.1 2 ^^^ 2 ^ k).testBit j = true then 1 else 0)
    rw [fb_bit_flip]
    by_cases e : j = k
    · rw [e, pz_Ie rfl (by omega), hb]
      cases (D.1 2).testBit k
      · simp
        decide
      · simp
        decide
    · rw [pz_Ik (by omega), c3 j hj]
      simp [e]
  · rw [pz_Ik (by omega), pz_Ik (by omega), pz_Ik (by omega), pz_Ik (by omega)]
    exact c6 i hi
def g_storm (l : Nat → Nat → Nat) (D : g_D) (sd : Nat) : g_D × Nat × Nat :=
  if l 0 3 ≤ g_sd sd / 64 % 100 ∨ l 0 1 = 0 then (D, g_sd sd, 0) else (g_d1 D 2 (D.1 2 ^^^ 2 ^ (g_sd (g_sd sd) / 64 % l 0 1)), g_sd (g_sd sd), 1)
theorem RX.storm {σ : sw_St} {w : Nat} {l : Nat → Nat → Nat} {P : Nat → List Nat} {nm : g_N} {D : g_D} {U : List g_D} {F : List (Nat × Nat × Nat)} {T : List Nat} {sd : Nat} {rf : Nat → Int32} {ft : Int32 × Int32} {im : List Nat} (hg : g_ld l P) (hk : g_dk l D) (hsd : sd < 2 ^ 31) (h : RX σ w l P nm D U F T sd rf ft im) : ∃ σ', F_X10_stormComes σ = some (nI (g_storm l D sd).2.2, σ') ∧ RX σ' w l P nm (g_storm l D sd).1 U F T (g_storm l D sd).2.1 rf ft im := by
  have g1 := hg.2.1
  have g3 := hg.2.2.2.1
  have hs2 : g_sd sd < 2147483648 := Nat.mod_lt _ (by omega)
  have hlt : g_sd sd / 64 % 100 < 100 := Nat.mod_lt _ (by omega)
  have h1 := h.seed (g_sd sd)
  have hw := h.1.1
  unfold F_X10_stormComes S_X10_stormComes_32 g_storm
  rw [show (100 : Int32) = nI 100 from rfl, px_draw h.2.2.2.2.2.2.2.1 hsd (by omega) (by omega)]
  dsimp only [Option.bind]
  rw [h1.1.2.1]
  dsimp only
  rw [if_pos (ld_O hw), if_pos (ld_O hw), if_pos (ld_O hw), h1.1.2.2.2.2.2.1, h1.1.2.2.2.1]
  by_cases c1 : l 0 3 ≤ g_sd sd / 64 % 100
  · rw [if_pos (nI_le c1 (by omega)), if_pos (Or.inl c1)]
    exact ⟨_, rfl, h1⟩
  · rw [if_neg (nI_ge (by omega) (by omega))]
    by_cases c2 : l 0 1 = 0
    · rw [if_pos (show nI (l 0 1) = (0 : Int32) from by rw [c2]; rfl), if_pos (Or.inr c2)]
      exact ⟨_, rfl, h1⟩
    · rw [if_neg (nI_ne0 (by omega) (by omega)), if_neg (by omega), px_draw h1.2.2.2.2.2.2.2.1 hs2 (by omega) (by omega)]
      dsimp only
      have hmod : g_sd (g_sd sd) / 64 % l 0 1 < l 0 1 := Nat.mod_lt _ (by omega)
      have h2 := h1.seed (g_sd (g_sd sd))
      rw [h1.2.2.2.1.2.2.1, pz_shl (by omega), fb_xorI]
      exact ⟨_, rfl, h2.setD (S := [38]) ((pz_sm.refl _ _).I (by decide) _ _) (by decide) (h2.2.2.2.1.opn _) (by rw [pz_Io (by decide)]; exact h2.2.2.2.2.2.2.2.2.2.2.2.1)⟩
theorem g_storm_dk {l : Nat → Nat → Nat} {D : g_D} {sd : Nat} (h : g_dk l D) : g_dk l (g_storm l D sd).1 ∧ (g_storm l D sd).2.1 < 2 ^ 31 ∧ (g_storm l D sd).1.1 0 = D.1 0 ∧ (g_storm l D sd).2.2 ≤ 1 := by
  have hs2 : ∀ x, g_sd x < 2147483648 := fun x => Nat.mod_lt _ (by omega)
  unfold g_storm
  split
  · exact ⟨h, hs2 _, rfl, Nat.zero_le _⟩
  · next hc =>
    have hmod : g_sd (g_sd sd) / 64 % l 0 1 < l 0 1 := Nat.mod_lt _ (by omega)
    exact ⟨⟨h.1, h.2.1, Nat.xor_lt_two_pow h.2.2.1 (Nat.pow_lt_pow_right (by omega) hmod), h.2.2.2⟩, hs2 _, rfl, Nat.le_refl _⟩

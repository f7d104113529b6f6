/-! Acts: both keep the state, both take it back. -/
theorem pm_st.cp {τ τ' : sw_St} {o a o' a' : Nat} {l : Nat → Nat → Nat} {D : g_D} (h : pm_st τ o a l D) (h1 : l 0 1 ≤ 10) (h2 : l 0 2 ≤ 6) (h3 : D.2.2.length ≤ 40) (r : ∀ j, j < 245 → τ'.1 o' (a' + j) = τ.1 o (a + j)) : pm_st τ' o' a' l D := by
  obtain ⟨c1, c2, c3, c4, c5, c6⟩ := h
  refine ⟨by rw [← Nat.add_zero a', r 0 (by omega)]; exact c1, by rw [r 1 (by omega)]; exact c2, fun k hk => by rw [r _ (by omega)]; exact c3 k hk, fun s j hs hj => by rw [r _ (by omega)]; exact c4 s j hs hj, by rw [r 84 (by omega)]; exact c5, fun i hi => ?_⟩
  rw [r _ (by omega), r _ (by omega), r _ (by omega), r _ (by omega)]
  exact c6 i hi
theorem pm_kloop {nw u : Nat} (hnw : nw < 20) (hu : u ≤ 20) : ∀ (n fuel k : Nat) (τ : sw_St), k + n = 245 → n < fuel → τ.1 0 68 = nI nw → τ.1 0 67 = nI u →
    ∃ τ', L_X11_keeps_15 fuel τ (nI k) = some ((), τ') ∧ (∀ j, k ≤ j → j < 245 → τ'.1 46 (245 * nw + j) = τ.1 37 j) ∧ (∀ i, i < 245 * nw + k ∨ 245 * nw + 245 ≤ i → τ'.1 46 i = τ.1 46 i) ∧ pm_sm [46] [67] τ τ' ∧ τ'.1 0 67 = nI (min 20 (u + 1))
  | 0, fuel + 1, k, τ, hk, hf, h68, h67 => by
    show ∃ τ', S_X11_keeps_15 _ τ (nI k) = _ ∧ _
    unfold S_X11_keeps_15 S_X11_keeps_68
    rw [if_pos (show (245 : Int32) ≤ nI k from nI_le (a := 245) (by omega) (by omega)), h67]
    by_cases h : 20 ≤ u
    · rw [if_pos (show (20 : Int32) ≤ nI u from nI_le (a := 20) h (by omega))]
      exact ⟨τ, rfl, fun j h1 h2 => by omega, fun _ _ => rfl, pm_sm.refl _ _ _, by rw [h67]; congr 1; omega⟩
    · rw [if_neg (show ¬ (20 : Int32) ≤ nI u from nI_ge (b := 20) (by omega) (by omega)), nI_1]
      exact ⟨_, rfl, fun j h1 h2 => by omega, fun i _ => by rw [pz_Io (by decide)], (pm_sm.refl _ _ τ).K (by decide) _, by rw [pz_Ie rfl rfl]; congr 1; omega⟩
  | n + 1, fuel + 1, k, τ, hk, hf, h68, h67 => by
    obtain ⟨τ', p1, p2, p3, p4, p5⟩ := pm_kloop hnw hu n fuel (k + 1) (sw_uI τ 46 (245 * nw + k) (τ.1 37 k)) (by omega) (by omega) (by rw [pz_Io (by decide)]; exact h68) (by rw [pz_Io (by decide)]; exact h67)
    refine ⟨τ', ?_, fun j h1 h2 => ?_, fun i hi => ?_, ((pm_sm.refl _ _ τ).I (by decide) (by decide) _ _).trans p4, p5⟩
    · show S_X11_keeps_15 _ τ (nI k) = _
      unfold S_X11_keeps_15
      rw [if_neg (show ¬ (245 : Int32) ≤ nI k from nI_ge (b := 245) (by omega) (by omega)), if_pos (pz_inb (by omega) (by omega)), h68, show (245 : Int32) * nI nw + nI k = nI (245 * nw + k) from by rw [show (245 : Int32) = nI 245 from rfl, pk_mul, nI_add], if_pos (pz_inb (by omega) (by omega)), nI_clamp (by omega), nI_clamp (by omega), nI_1]
      exact p1
    · by_cases e : j = k
      · rw [e, p3 _ (by omega), pz_Ie rfl rfl]
      · rw [p2 j (by omega) h2, pz_Io (by decide)]
    · rw [p3 i (by omega), pz_Ik (by omega)]
theorem pm_keeps {τ : sw_St} {l : Nat → Nat → Nat} {D : g_D} {U : List g_D} (h1 : l 0 1 ≤ 10) (h2 : l 0 2 ≤ 6) (h3 : D.2.2.length ≤ 40) (h4 : ∀ E ∈ U, E.2.2.length ≤ 40) (hD : pm_st τ 37 0 l D) (hU : MU τ l U) (hU20 : U.length ≤ 20) : ∃ τ', F_X11_keeps τ = some ((), τ') ∧ MU τ' l ((D :: U).take 20) ∧ pm_sm [46] [67, 68] τ τ' := by
  obtain ⟨nw, b1, b2, b3, b4⟩ := hU
  have hrem : nI nw + 1 - (nI nw + 1) / 20 * 20 = nI ((nw + 1) % 20) := by
    rw [nI_1, show (20 : Int32) = nI 20 from rfl, pk_rem (by omega) (by omega) (by omega)]
  have m0 : pm_sm [46] [67, 68] τ (sw_uI τ 0 68 (nI ((nw + 1) % 20))) := (pm_sm.refl _ _ τ).K (by decide) _
  have hlt : (nw + 1) % 20 < 20 := Nat.mod_lt _ (by omega)
  obtain ⟨τ', p1, p2, p3, p4, p5⟩ := pm_kloop (nw := (nw + 1) % 20) (u := U.length) hlt hU20 245 sw_fuel 0 (sw_uI τ 0 68 (nI ((nw + 1) % 20))) (by omega) (by have := sw_fuel_ge; omega) (pz_Ie rfl rfl) (by rw [pz_Ik (by decide)]; exact b3)
  refine ⟨τ', ?_, ⟨(nw + 1) % 20, hlt, ?_, ?_, fun i E hE => ?_⟩, m0.trans (p4.mono (by decide) (by decide))⟩
  · unfold F_X11_keeps
    rw [b2, hrem]
    exact p1
  · rw [p4.2.1 68 (by decide), pz_Ie rfl rfl]
  · rw [p5, List.length_take, List.length_cons]
  · rw [List.getElem?_take] at hE
    by_cases hi : i < 20
    · rw [if_pos hi] at hE
      cases i with
      | zero =>
        simp at hE
        subst hE
        rw [show ((nw + 1) % 20 + 20 - 0) % 20 = (nw + 1) % 20 by omega]
        exact hD.cp h1 h2 h3 (fun j hj => by rw [p2 j (by omega) hj, pz_Io (by decide), Nat.zero_add])
      | succ i =>
        simp at hE
        have hl : i < U.length := (List.getElem?_eq_some_iff.mp hE).1
        have hmem : E ∈ U := List.mem_of_getElem? hE
        have e : ((nw + 1) % 20 + 20 - (i + 1)) % 20 = (nw + 20 - i) % 20 := by omega
        rw [e]
        have hne : (nw + 20 - i) % 20 ≠ (nw + 1) % 20 := by omega
        have hl2 : (nw + 20 - i) % 20 < 20 := Nat.mod_lt _ (by omega)
        refine (b4 i E hE).cp h1 h2 (h4 E hmem) (fun j hj => ?_)
        rw [p3 _ (by omega), pz_Io (by decide)]
    · rw [if_neg hi] at hE
      cases hE
theorem g_dk_take {l : Nat → Nat → Nat} {D : g_D} {U : List g_D} (hD : g_dk l D) (hU : U.length ≤ 20 ∧ ∀ E ∈ U, g_dk l E) : ((D :: U).take 20).length ≤ 20 ∧ ∀ E ∈ (D :: U).take 20, g_dk l E := by
  refine ⟨by rw [List.length_take]; omega, fun E hE => ?_⟩
  rcases List.mem_cons.mp (List.mem_of_mem_take hE) with rfl | h
  · exact hD
  · exact hU.2 E h
/-- the class's state alone changes, and what is of no account -/
theorem RX.setD {σ σ' : sw_St} {w : Nat} {l : Nat → Nat → Nat} {P : Nat → List Nat} {nm : g_N} {D : g_D} {U : List g_D} {F : List (Nat × Nat × Nat)} {T : List Nat} {sd : Nat} {rf : Nat → Int32} {ft : Int32 × Int32} {im : List Nat} {D' : g_D} {S : List Nat} (h : RX σ w l P nm D U F T sd rf ft im) (m : pz_sm S σ σ') (hS : ∀ o ∈ S, o ∈ [38, 39, 40, 41, 42, 43, 44, 45] ++ px_scr) (hD : px_st σ' 38 l D') (ht : σ'.1 34 2 = nI 0) : RX σ' w l P nm D' U F T sd rf ft im := by
  have n : ∀ o, o ∉ [38, 39, 40, 41, 42, 43, 44, 45] ++ px_scr → o ∉ S := fun o h1 h2 => h1 (hS o h2)
  have m' : pz_sm ([38, 39, 40, 41, 42, 43, 44, 45] ++ px_scr) σ σ' := m.mono hS
  exact h.gen m' (by decide) (m'.rR (by decide) 4) hD (h.2.2.2.2.1.mv m' (by decide)) (h.2.2.2.2.2.1.mv (m'.r (by decide) 4) (m' 55 (by decide)).1) (h.2.2.2.2.2.2.1.mv (m'.r (by decide) 1) (m' 1 (by decide)).1) (by rw [m'.r (by decide)]; exact h.2.2.2.2.2.2.2.1) (fun j hj => by rw [m'.r (by decide)]; exact h.2.2.2.2.2.2.2.2.1 j hj) (by rw [m'.r (by decide), m'.r (by decide)]; exact h.2.2.2.2.2.2.2.2.2.1) (h.2.2.2.2.2.2.2.2.2.2.1.mv (m'.r (by decide) 1) (m' 225 (by decide)).1) ht (h.2.2.2.2.2.2.2.2.2.2.2.2.mv (m' 54 (by decide)).2.2)
theorem RM.setD {τ τ' : sw_St} {l : Nat → Nat → Nat} {P : Nat → List Nat} {nm : g_N} {D : g_D} {U : List g_D} {F : List (Nat × Nat × Nat)} {T : List Nat} {sd : Nat} {rf : Nat → Int32} {ft : Int32 × Int32} {im : List Nat} {D' : g_D} {S K : List Nat} (h : RM τ l P nm D U F T sd rf ft im) (m0 : pm_sm S K τ τ') (hS : ∀ o ∈ S, o ∈ 37 :: pm_scrS) (hK : ∀ k ∈ K, k ∈ pm_scrK) (hD : pm_st τ' 37 0 l D') : RM τ' l P nm D' U F T sd rf ft im := by
  have m : pm_sm (37 :: pm_scrS) pm_scrK τ τ' := m0.mono hS hK
  have r : ∀ o, o ≠ 0 → o ∉ 37 :: pm_scrS → τ'.1 o = τ.1 o := fun o h0 ho => (m.1 o h0 ho).1
  have rk : ∀ k, k ∉ pm_scrK → τ'.1 0 k = τ.1 0 k := fun k hk => m.2.1 k hk
  exact h.gen (h.1.mv m (by unfold pm_LS; decide)) (m.1 29 (by decide) (by decide)).2 hD (h.2.2.2.1.mv (rk 68 (by decide)) (rk 67 (by decide)) (r 46 (by decide) (by decide))) (h.2.2.2.2.1.mv (rk 63 (by decide)) (r 44 (by decide) (by decide))) (h.2.2.2.2.2.1.mv (rk 1 (by decide)) (r 1 (by decide) (by decide))) (by rw [m.2.2]; exact h.2.2.2.2.2.2.1) (fun j hj => by rw [r 2 (by decide) (by decide)]; exact h.2.2.2.2.2.2.2.1 j hj) (by rw [rk 7 (by decide), rk 8 (by decide)]; exact h.2.2.2.2.2.2.2.2.1) (h.2.2.2.2.2.2.2.2.2.1.mv (rk 105 (by decide)) (r 74 (by decide) (by decide))) (by rw [rk 52 (by decide), rk 58 (by decide)]; exact h.2.2.2.2.2.2.2.2.2.2.1) (h.2.2.2.2.2.2.2.2.2.2.2.mv m (by decide))
/-- the state is kept ahead of an act -/
theorem RX.keep {σ : sw_St} {w : Nat} {l : Nat → Nat → Nat} {P : Nat → List Nat} {nm : g_N} {D : g_D} {U : List g_D} {F : List (Nat × Nat × Nat)} {T : List Nat} {sd : Nat} {rf : Nat → Int32} {ft : Int32 × Int32} {im : List Nat} (hG : RG l P nm D U F T sd im) (h : RX σ w l P nm D U F T sd rf ft im) : ∃ σ', F_X4_remember σ 38 = some ((), σ') ∧ RX σ' w l P nm D ((D :: U).take 20) F T sd rf ft im := by
  obtain ⟨σ', p1, p2, S, p3, p4⟩ := px_remember hG.1.2.2.1 h.2.2.2.1 h.2.2.2.2.1 hG.2.2.2.1.1
  have n : ∀ o, o < 62 ∨ 223 < o → o ∉ S := fun o h1 h2 => by have := p4 o h2; omega
  exact ⟨σ', p1, h.gen p3 (fun o ho => by have := p4 o ho; omega) (p3.rR (n 0 (by omega)) 4) (h.2.2.2.1.mv (fun i hi => (p3 _ (n _ (by omega))).1)) p2 (h.2.2.2.2.2.1.mv (p3.r (n 54 (by omega)) 4) (p3 55 (n 55 (by omega))).1) (h.2.2.2.2.2.2.1.mv (p3.r (n 0 (by omega)) 1) (p3 1 (n 1 (by omega))).1) (by rw [p3.r (n 0 (by omega))]; exact h.2.2.2.2.2.2.2.1) (fun j hj => by rw [p3.r (n 226 (by omega))]; exact h.2.2.2.2.2.2.2.2.1 j hj) (by rw [p3.r (n 2 (by omega)), p3.r (n 2 (by omega))]; exact h.2.2.2.2.2.2.2.2.2.1) (h.2.2.2.2.2.2.2.2.2.2.1.mv (p3.r (n 224 (by omega)) 1) (p3 225 (n 225 (by omega))).1) (by rw [p3.r (n 34 (by omega))]; exact h.2.2.2.2.2.2.2.2.2.2.2.1) (h.2.2.2.2.2.2.2.2.2.2.2.2.mv (p3 54 (n 54 (by omega))).2.2)⟩
theorem RM.keep {τ : sw_St} {l : Nat → Nat → Nat} {P : Nat → List Nat} {nm : g_N} {D : g_D} {U : List g_D} {F : List (Nat × Nat × Nat)} {T : List Nat} {sd : Nat} {rf : Nat → Int32} {ft : Int32 × Int32} {im : List Nat} (hG : RG l P nm D U F T sd im) (h : RM τ l P nm D U F T sd rf ft im) : ∃ τ', F_X11_keeps τ = some ((), τ') ∧ RM τ' l P nm D ((D :: U).take 20) F T sd rf ft im := by
  obtain ⟨τ', p1, p2, p3⟩ := pm_keeps hG.1.2.1 hG.1.2.2.1 hG.2.2.1.2.2.2.2.1 (fun E hE => (hG.2.2.2.1.2 E hE).2.2.2.2.1) h.2.2.1 h.2.2.2.1 hG.2.2.2.1.1
  have r : ∀ o, o ≠ 0 → o ∉ [46] → τ'.1 o = τ.1 o := fun o h0 ho => (p3.1 o h0 ho).1
  have rk : ∀ k, k ∉ [67, 68] → τ'.1 0 k = τ.1 0 k := fun k hk => p3.2.1 k hk
  exact ⟨τ', p1, h.gen (h.1.mv p3 (by unfold pm_LS; decide)) (p3.1 29 (by decide) (by decide)).2 (h.2.2.1.mvr (r 37 (by decide) (by decide))) p2 (h.2.2.2.2.1.mv (rk 63 (by decide)) (r 44 (by decide) (by decide))) (h.2.2.2.2.2.1.mv (rk 1 (by decide)) (r 1 (by decide) (by decide))) (by rw [p3.2.2]; exact h.2.2.2.2.2.2.1) (fun j hj => by rw [r 2 (by decide) (by decide)]; exact h.2.2.2.2.2.2.2.1 j hj) (by rw [rk 7 (by decide), rk 8 (by decide)]; exact h.2.2.2.2.2.2.2.2.1) (h.2.2.2.2.2.2.2.2.2.1.mv (rk 105 (by decide)) (r 74 (by decide) (by decide))) (by rw [rk 52 (by decide), rk 58 (by decide)]; exact h.2.2.2.2.2.2.2.2.2.2.1) (h.2.2.2.2.2.2.2.2.2.2.2.mv p3 (by decide))⟩
theorem RG.keep {l : Nat → Nat → Nat} {P : Nat → List Nat} {nm : g_N} {D D' : g_D} {U : List g_D} {F : List (Nat × Nat × Nat)} {T : List Nat} {sd : Nat} {im : List Nat} (h : RG l P nm D U F T sd im) (hD : g_dk l D') : RG l P nm D' ((D :: U).take 20) F T sd im :=
  ⟨h.1, h.2.1, hD, g_dk_take h.2.2.1 h.2.2.2.1, h.2.2.2.2⟩
def g_d1 (D : g_D) (j v : Nat) : g_D := (fun i => if i = j then v else D.1 i, D.2)
def g_dr (D : g_D) (s : Nat) (row : Nat → Nat) : g_D := (D.1, fun i => if i = s then row else D.2.1 i, D.2.2)
theorem op_27 : ll_27 RR := by
  intro x m hR a b
  obtain ⟨w, l, P, nm, D, U, F, T, sd, rf, ft, im, hG, hX, hM⟩ := hR
  have hR : RR x m := ⟨w, l, P, nm, D, U, F, T, sd, rf, ft, im, hG, hX, hM⟩
  have g1 := hG.1.2.1
  have g2 := hG.1.2.2.1
  have hoL := hG.2.2.1.2.2.1
  have h2p : 2 ^ l 0 1 ≤ 2 ^ 10 := Nat.pow_le_pow_right (by omega) g1
  have ho : D.1 2 < 2 ^ 31 := by omega
  have rx : ∀ z : Unit, (F_X10_refuse x 2).bind (fun q1 => some ((0 : Int32), q1.2)) = some (0, sw_uI x 226 2 (x.1 226 2 + 1)) := fun _ => by
    rw [show (2 : Int32) = nI 2 from rfl, px_refuse (by omega)]
    rfl
  have rm : ∀ z : Unit, (F_X11_isRefused m).bind (fun q1 => if q1.1 = 0 ∨ q1.1 = 1 then some (q1.1, q1.2) else none) = some (0, sw_uI m 2 2 (m.1 2 2 + 1)) := fun _ => rfl
  have hno : RR (sw_uI x 226 2 (x.1 226 2 + 1)) (sw_uI m 2 2 (m.1 2 2 + 1)) := hR.ref (by omega)
  unfold F_X10_swing F_X11_swing S_X10_swing_32 S_X11_swing_31
  rw [px_isGap hG.1 hX.1, pm_isGap hG.1 hM.1]
  dsimp only [Option.bind]
  by_cases h : g_in a (l 0 1) = true
  · obtain ⟨k, hk, rfl⟩ := g_in_of h
    rw [if_pos h, if_neg pz_10, if_neg pz_10, pm_inL m b 1 (by decide)]
    dsimp only
    by_cases hb : g_in b 2 = true
    · obtain ⟨on, hon, rfl⟩ := g_in_of hb
      have hbit : m.1 37 (2 + k) = nI (if (D.1 2).testBit k = true then 1 else 0) := by
        have := hM.2.2.1.2.2.1 k hk
        rwa [Nat.zero_add] at this
      have hbx : (x.1 38 2 >>> (nI k &&& 31)) &&& 1 = nI (if (D.1 2).testBit k = true then 1 else 0) := by
        rw [hX.2.2.2.1.2.2.1, pz_bit ho (by omega)]
        congr 1
        have := Nat.testBit_eq_decide_div_mod_eq (x := D.1 2) (i := k)
        rw [this]
        by_cases q : D.1 2 / 2 ^ k % 2 = 1
        · rw [if_pos (decide_eq_true q), q]
        · rw [if_neg (by simp; omega)]
          omega
      rw [if_pos hb, if_neg pz_10, if_neg (nI_pos (by omega)), if_neg (show ¬ (1 : Int32) < nI on from nI_nlt (a := 1) (by omega) (by omega)), hbx, pm_ad, if_pos (pz_inb (show 2 + k < 245 by omega) (by omega)), nI_clamp (by omega), hbit]
      by_cases hs : nI (if (D.1 2).testBit k = true then 1 else 0) = nI on
      · rw [if_pos hs, if_pos hs]
        exact ⟨0, _, _, rx (), rm (), hno⟩
      · rw [if_neg hs, if_neg hs]
        obtain ⟨σ1, p1, p2⟩ := hX.keep hG
        obtain ⟨τ1, q1, q2⟩ := hM.keep hG
        rw [p1, q1]
        dsimp only
        have hlt : D.1 2 ^^^ 2 ^ k < 2 ^ l 0 1 := Nat.xor_lt_two_pow hoL (Nat.pow_lt_pow_right (by omega) hk)
        have hdk : g_dk l (g_d1 D 2 (D.1 2 ^^^ 2 ^ k)) := ⟨hG.2.2.1.1, hG.2.2.1.2.1, hlt, hG.2.2.1.2.2.2⟩
        refine ⟨1, _, _, rfl, by rw [if_pos (pz_inb (show 2 + k < 245 by omega) (by omega))], w, l, P, nm, g_d1 D 2 (D.1 2 ^^^ 2 ^ k), (D :: U).take 20, F, T, sd, rf, ft, im, hG.keep hdk, ?_, ?_⟩
        · rw [p2.2.2.2.1.2.2.1, pz_shl (by omega), fb_xorI]
          refine p2.setD (S := [38]) ((pz_sm.refl _ σ1).I (by decide) _ _) (by decide) ?_ (by rw [pz_Io (by decide)]; exact p2.2.2.2.2.2.2.2.2.2.2.2.1)
          obtain ⟨c1, c2, c3, c4, kf, d1, d2, d3, d4⟩ := p2.2.2.2.1
          refine ⟨by rw [pz_Ik (by decide)]; exact c1, by rw [pz_Ik (by decide)]; exact c2, pz_Ie rfl rfl, fun s hs => ?_, kf, d1, by rw [pz_Ik (by decide)]; exact d2, by rw [pz_Ik (by decide)]; exact d3, fun i hi => by rw [pz_Io (by decide)]; exact d4 i hi⟩
          obtain ⟨s1, s2, s3, s4, s5, s6⟩ := c4 s hs
          exact ⟨by rw [pz_Io (by decide)]; exact s1, by rw [pz_Io (by decide)]; exact s2, by rw [pz_Io (by decide)]; exact s3, by rw [pz_Io (by decide)]; exact s4, by rw [pz_Io (by decide)]; exact s5, fun f hf => by rw [pz_Io (by decide)]; exact s6 f hf⟩
        · refine q2.setD (S := [37]) (K := []) ((pm_sm.refl _ _ τ1).I (by decide) (by decide) _ _) (by decide) (by decide) ?_
          obtain ⟨c1, c2, c3, c4, c5, c6⟩ := q2.2.2.1
          refine ⟨by rw [pz_Ik (by omega)]; exact c1, by rw [pz_Ik (by omega)]; exact c2, fun j hj => ?_, fun s j hs hj => by rw [pz_Ik (by omega)]; exact c4 s j hs hj, by rw [pz_Ik (by omega)]; exact c5, fun i hi => ?_⟩
          · show _ = nI (if (D.1 2 ^^^ 2 ^ k).testBit j = true then 1 else 0)
            rw [fb_bit_flip]
            by_cases e : j = k
            · rw [e, pz_Ie rfl (by omega)]
              cases hbb : (D.1 2).testBit k
              · rw [hbb] at hs
                have : on = 1 := by
                  rcases (show on = 0 ∨ on = 1 by omega) with z | z
                  · exact absurd (by rw [z]; rfl) hs
                  · exact z
                rw [this]
                simp
              · rw [hbb] at hs
                have : on = 0 := by
                  rcases (show on = 0 ∨ on = 1 by omega) with z | z
                  · exact z
                  · exact absurd (by rw [z]; rfl) hs
                rw [this]
                simp
            · rw [pz_Ik (by omega), c3 j hj]
              simp [e]
          · obtain ⟨e1, e2, e3, e4⟩ := c6 i hi
            exact ⟨by rw [pz_Ik (by omega)]; exact e1, by rw [pz_Ik (by omega)]; exact e2, by rw [pz_Ik (by omega)]; exact e3, by rw [pz_Ik (by omega)]; exact e4⟩
    · rw [if_neg hb, if_pos rfl]
      refine ⟨0, _, _, ?_, rm (), hno⟩
      rcases g_in_no hb (by omega) with q | ⟨q1, q2, q3⟩
      · rw [if_pos q]
        exact rx ()
      · rw [if_neg q1, if_pos (show (1 : Int32) < b from by rw [fa_lt, show (1 : Int32).toInt = 1 from by decide]; rw [fa_le, nI_toInt (by omega)] at q2; omega)]
        exact rx ()
  · rw [if_neg h, if_pos rfl, if_pos rfl]
    exact ⟨0, _, _, rx (), rm (), hno⟩

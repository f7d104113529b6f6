/-! Tests: the reference closes squares and ends. -/
theorem pm_l33 {h g d base : Nat} {W0 : List Nat} {c0 : sw_St → Option (Int32 × sw_St)} : ∀ (V C : List Nat) (fuel : Nat) (τ : sw_St), pm_q τ (V ++ 25 :: W0) C (d + 1) base → (∀ o ∈ V, o ≠ 25) → V.length < fuel → ∃ τ', L_X11_qGoesOnTest_33 c0 fuel τ = ((F_X11_qDropsNots τ').bind fun q2 => c0 q2.2) ∧ pm_q τ' W0 (C ++ V) d base ∧ pm_sm [71] [95, 97, 98] τ τ'
  | [], C, fuel + 1, τ, hq, hV, hf => by
    have hq : pm_q τ (25 :: W0) C (d + 1) base := hq
    obtain ⟨a1, a2, a3, a4, a5, a6, a7, a8, a9, a10⟩ := hq
    have hq : pm_q τ (25 :: W0) C (d + 1) base := ⟨a1, a2, a3, a4, a5, a6, a7, a8, a9, a10⟩
    have m4 : pm_sm [] [97, 98] τ (sw_uI (sw_uI τ 0 97 (nI W0.length)) 0 98 (nI d)) := ((pm_sm.refl _ _ τ).K (by decide) _).K (by decide) _
    simp only [List.length_cons] at a7
    refine ⟨_, ?_, ⟨pm_wt_cong (fun k _ => m4.r (by decide) (by decide) k) a1.2, fun i hi => by rw [m4.r (by decide) (by decide)]; rw [List.append_nil] at hi ⊢; exact a2 i hi, by rw [pz_Ik (by decide), pz_Ie rfl rfl], by rw [m4.2.1 95 (by decide), List.append_nil]; exact a4, pz_Ie rfl rfl, by rw [m4.2.1 99 (by decide)]; exact a6, by rw [List.append_nil]; omega, fun o ho => a8 o (by simp [ho]), by omega, a10⟩, m4.mono (by decide) (by decide)⟩
    show S_X11_qGoesOnTest_33 c0 _ τ = _
    unfold S_X11_qGoesOnTest_33
    rw [show F_X11_qIsOn τ 25 = _ from pm_qIsOn (x := 25) hq (by omega), decide_eq_true (show (25 :: W0).head? = some 25 from rfl)]
    dsimp only [Option.bind_some]
    rw [if_neg (show ¬ g_ok1 true = 0 from pz_10), show τ.1 0 97 = nI (W0.length + 1) from a3, a5, show nI (W0.length + 1) - 1 = nI W0.length from nI_pred _, show nI (d + 1) - 1 = nI d from nI_pred _]
  | o :: V, C, fuel + 1, τ, hq, hV, hf => by
    obtain ⟨τ1, p1, p2, p3⟩ := pm_qDrops (W := V ++ 25 :: W0) (o := o) hq
    obtain ⟨τ2, q1, q2, q3⟩ := pm_l33 (h := h) (g := g) (c0 := c0) V (C ++ [o]) fuel τ1 p2 (fun o2 h2 => hV o2 (by simp [h2])) (by simp at hf; omega)
    refine ⟨τ2, ?_, by rw [List.append_assoc] at q2; exact q2, (p3.mono (by decide) (by decide)).trans q3⟩
    show S_X11_qGoesOnTest_33 c0 _ τ = _
    unfold S_X11_qGoesOnTest_33
    rw [show F_X11_qIsOn τ 25 = _ from pm_qIsOn (x := 25) hq (by omega), decide_eq_false (show ¬ (o :: V ++ 25 :: W0).head? = some 25 from fun y => hV o (by simp) (Option.some.inj y))]
    dsimp only [Option.bind_some]
    rw [if_pos (show g_ok1 false = 0 from rfl), p1]
    exact q1
/-- how many marks are open -/
def pm_mk (W : List Nat) : Nat := (W.filter (fun o => decide (o = 12))).length
theorem pm_goSq {τ : sw_St} {t : Nat → Nat} {N use b nn h g d base : Nat} {V W0 C : List Nat} (hq : pm_qs τ t N use b (V ++ 25 :: W0) C (d + 1) base) (ht : ∀ i, t i < 256) (hN : N ≤ 1600) (hb : b ≤ N) (hk : tk_k t N b = 93) (hV : ∀ o ∈ V, o = 10 ∨ o = 11) (hV2 : V.length ≤ 2) (hmk : pm_mk W0 ≤ d) : ∃ τ', pm_qH (nn + 1) (h + 1) g τ = pm_qH sw_fuel h g τ' ∧ pm_qs τ' t N use (tk_e t N b) W0 (C ++ V) d base ∧ pm_qf τ τ' := by
  have s93 : tk_sgn 93 := by unfold tk_sgn; omega
  have hgt := tk_e_gt hb (show tk_k t N b ≠ 301 by omega)
  have hfu := sw_fuel_ge
  have hl := hq.2.2.2
  have e0 := pm_dn0 (nn := nn) hq.2.1 (by
    cases V with
    | nil => exact fun z => by have := Option.some.inj (show some 25 = some 12 from z); omega
    | cons o V' => exact fun z => by have := Option.some.inj (show some o = some 12 from z); have := hV o (by simp); omega)
  obtain ⟨τ1, p1, p2, p3⟩ := pm_look hq.1 ht hN hb
  have hq1 := hq.lx p3 (by decide) (p2.ps hb) (Nat.le_refl _)
  have m2 : pm_sm [] [2] τ1 (sw_uI τ1 0 2 (nI (tk_s t N b + 1))) := (pm_sm.refl _ _ τ1).K (by decide) _
  have ps2 : pm_ps (sw_uI τ1 0 2 (nI (tk_s t N b + 1))) t N (tk_e t N b) := pm_sgOn p2 ht hb s93 hk (m2.mono (by decide) (by decide)) (pz_Ie rfl rfl)
  obtain ⟨τ3, r1, r2, r3⟩ := pm_l33 (h := h) (g := g) (c0 := fun σ => L_X11_qGoesOnTest_0 h σ) V C sw_fuel _ (hq1.2.1.mv m2 (by decide)) (fun o ho => by have := hV o ho; omega) (by omega)
  have ps3 : pm_ps τ3 t N (tk_e t N b) := ps2.mv r3 (by decide) (by decide)
  obtain ⟨τ4, u1, u2⟩ := pm_dnW W0 (C ++ V) d base sw_fuel τ3 r2 ps3.2.2.1 (by simp at hl; omega) hmk
  refine ⟨τ3, ?_, ⟨ps3, r2, by rw [r3.2.1 48 (by decide), m2.2.1 48 (by decide)]; exact hq1.2.2.1, by simp at hl ⊢; omega⟩, ((p3.trans m2).mono (by decide) (by decide)).trans (r3.mono (by decide) (by decide))⟩
  have eL : L_X11_qGoesOnTest_0 (h + 1) τ = L_X11_qGoesOnTest_0 h τ4 := by
    show S_X11_qGoesOnTest_0 _ τ = _
    unfold S_X11_qGoesOnTest_0
    rw [if_pos hq.1.2.2.1, p1]
    dsimp only [Option.bind_some]
    rw [if_pos (show tk_c t N b = 93 from (pm_cIs ht s93).mpr hk), pm_hasSq hq1.2.1, decide_eq_true (by simp)]
    dsimp only [Option.bind_some]
    rw [if_neg (show ¬ g_ok1 true = 0 from pz_10), p2.2.1, nI_1, r1, show F_X11_qDropsNots τ3 = _ from u1]
    rfl
  unfold pm_qH
  rw [e0, u1]
  dsimp only [Option.bind_some]
  rw [if_pos hq.1.2.2.1, if_pos u2, eL]
/-- a fault in a test ends it -/
theorem pm_tstop {τ : sw_St} {g kd pl : Nat} (h : pm_bad τ kd pl) (hk : 0 < kd ∧ kd < 100) : L_X11_qTest_2 (g + 1) τ 0 = some ((), τ) := by
  obtain ⟨ff, hff⟩ : ∃ ff, sw_fuel = ff + 1 := ⟨sw_fuel - 1, by have := sw_fuel_ge; omega⟩
  show S_X11_qTest_2 _ τ 0 = _
  unfold S_X11_qTest_2
  rw [if_pos rfl, hff]
  show S_X11_qTest_110 _ τ = _
  unfold S_X11_qTest_110 S_X11_qTest_131
  rw [if_neg (pm_badN h hk)]
theorem pm_tstop1 {τ : sw_St} {g kd pl : Nat} (h : pm_bad τ kd pl) (hk : 0 < kd ∧ kd < 100) : L_X11_qTest_2 (g + 1) τ 1 = some ((), τ) := by
  obtain ⟨ff, hff⟩ : ∃ ff, sw_fuel = ff + 1 := ⟨sw_fuel - 1, by have := sw_fuel_ge; omega⟩
  show S_X11_qTest_2 _ τ 1 = _
  unfold S_X11_qTest_2
  rw [if_neg pz_10, if_neg (pm_badN h hk), hff]
  show S_X11_qTest_110 _ τ = _
  unfold S_X11_qTest_110 S_X11_qTest_131
  rw [if_neg (pm_badN h hk)]
theorem pm_goTx {τ : sw_St} {t : Nat → Nat} {N use b h d base : Nat} {W C : List Nat} (hq : pm_qs τ t N use b W C d base) (ht : ∀ i, t i < 256) (hN : N ≤ 1600) (hb : b ≤ N) (hk : tk_k t N b ≠ 276 ∧ tk_k t N b ≠ 275 ∧ (tk_k t N b = 93 → 25 ∉ W)) : ∃ τ', L_X11_qGoesOnTest_0 (h + 1) τ = (if decide (25 ∈ W) = true then ((F_X11_fail τ' 1 (nI (tk_s t N b))).bind fun q4 => some (0, q4.2)) else some (0, τ')) ∧ pm_pa τ' t N b ∧ pm_sm [] [2] τ τ' := by
  have s93 : tk_sgn 93 := by unfold tk_sgn; omega
  have toS : ∃ τ1, L_X11_qGoesOnTest_0 (h + 1) τ = S_X11_qGoesOnTest_76 τ1 ∧ pm_ps τ1 t N b ∧ pm_sm [] [2] τ τ1 := by
    by_cases c : tk_k t N b = 93
    · obtain ⟨τ1, p1, p2, p3⟩ := pm_look hq.1 ht hN hb
      have hq1 := hq.lx p3 (by decide) (p2.ps hb) (Nat.le_refl _)
      refine ⟨τ1, ?_, p2.ps hb, p3⟩
      show S_X11_qGoesOnTest_0 _ τ = _
      unfold S_X11_qGoesOnTest_0
      rw [if_pos hq.1.2.2.1, p1]
      dsimp only [Option.bind_some]
      rw [if_pos (show tk_c t N b = 93 from (pm_cIs ht s93).mpr c), pm_hasSq hq1.2.1, decide_eq_false (hk.2.2 c)]
      dsimp only [Option.bind_some]
      rw [if_pos (show g_ok1 false = 0 from rfl)]
    · exact pm_goT hq.1 ht hN hb c
  obtain ⟨τ1, p1, p2, p3⟩ := toS
  obtain ⟨τ2, q1, q2, q3⟩ := (pm_takes (x := (54, 276)) p2 ht hN hb (by decide)).2 hk.1
  obtain ⟨τ3, r1, r2, r3⟩ := (pm_takes (x := (55, 275)) (q2.ps hb) ht hN hb (by decide)).2 hk.2.1
  have m3 := (p3.trans q3).trans r3
  have hq3 := hq.lx m3 (by decide) (r2.ps hb) (Nat.le_refl _)
  refine ⟨τ3, ?_, r2, m3⟩
  rw [p1]
  unfold S_X11_qGoesOnTest_76 S_X11_qGoesOnTest_208
  rw [show F_X11_takes τ1 54 = _ from q1]
  dsimp only [Option.bind_some]
  rw [if_pos rfl, show F_X11_takes τ2 55 = _ from r1]
  dsimp only [Option.bind_some]
  rw [if_pos rfl, if_pos r2.2.2.1, pm_hasSq hq3.2.1]
  dsimp only [Option.bind_some]
  by_cases c : 25 ∈ W
  · rw [decide_eq_true c, if_neg (show ¬ g_ok1 true = 0 from pz_10), if_pos rfl, r2.2.1]
  · rw [decide_eq_false c, if_pos (show g_ok1 false = 0 from rfl), if_neg (by decide)]
theorem pm_goErrT {τ : sw_St} {t : Nat → Nat} {N use b nn h g d base : Nat} {V W0 C : List Nat} (hq : pm_qs τ t N use b (V ++ 25 :: W0) C d base) (ht : ∀ i, t i < 256) (hN : N ≤ 1600) (hb : b ≤ N) (hk : tk_k t N b ≠ 276 ∧ tk_k t N b ≠ 275 ∧ tk_k t N b ≠ 93) (hV : ∀ o ∈ V, o = 10 ∨ o = 11) : ∃ τ', pm_qH (nn + 1) (h + 1) (g + 1) τ = some ((), τ') ∧ pm_bad τ' 1 (tk_s t N b) ∧ pm_qf τ τ' := by
  have e0 := pm_dn0 (nn := nn) hq.2.1 (by
    cases V with
    | nil => exact fun z => by have := Option.some.inj (show some 25 = some 12 from z); omega
    | cons o V' => exact fun z => by have := Option.some.inj (show some o = some 12 from z); have := hV o (by simp); omega)
  obtain ⟨τ1, p1, p2, p3⟩ := pm_goTx (h := h) hq ht hN hb ⟨hk.1, hk.2.1, fun y => absurd y hk.2.2⟩
  obtain ⟨τ2, q1, q2, q3⟩ := pm_failN (τ := τ1) (kd := 1) (pl := tk_s t N b) p2.2.2.1
  refine ⟨τ2, ?_, q2, (p3.mono (by decide) (by decide)).trans (q3.mono (by decide) (by decide))⟩
  unfold pm_qH
  rw [e0]
  dsimp only [Option.bind_some]
  rw [if_pos hq.1.2.2.1, p1, if_pos (decide_eq_true (by simp)), show F_X11_fail τ1 1 (nI (tk_s t N b)) = _ from q1]
  dsimp only [Option.bind_some]
  unfold q_tr
  rw [if_pos rfl]
  exact pm_tstop q2 (by omega)
theorem pm_t110 {d base : Nat} : ∀ (V C : List Nat) (fuel : Nat) (τ : sw_St), pm_q τ V C d base → τ.1 0 5 = 0 → V.length < fuel → ∃ τ', L_X11_qTest_110 fuel τ = some ((), τ') ∧ pm_q τ' [] (C ++ V) d base ∧ pm_sm [71] [95, 97] τ τ'
  | [], C, fuel + 1, τ, h, h5, hf => by
    refine ⟨τ, ?_, by rw [List.append_nil]; exact h, pm_sm.refl _ _ _⟩
    show S_X11_qTest_110 _ τ = _
    unfold S_X11_qTest_110 S_X11_qTest_131
    rw [if_pos h5, h.2.2.1, if_pos (show nI ([] : List Nat).length ≤ 0 from nI_le (b := 0) (Nat.le_refl _) (by omega))]
  | o :: V, C, fuel + 1, τ, h, h5, hf => by
    have hl := h.2.2.2.2.2.2.1
    obtain ⟨τ1, p1, p2, p3⟩ := pm_qDrops (W := V) (o := o) h
    obtain ⟨τ2, q1, q2, q3⟩ := pm_t110 V (C ++ [o]) fuel τ1 p2 (by rw [p3.2.1 5 (by decide)]; exact h5) (by simp at hf; omega)
    refine ⟨τ2, ?_, by rw [List.append_assoc] at q2; exact q2, p3.trans q3⟩
    show S_X11_qTest_110 _ τ = _
    unfold S_X11_qTest_110
    rw [if_pos h5, h.2.2.1, if_neg (nI_nle (by simp) (by simp at hl ⊢; omega)), p1]
    exact q1
theorem pm_goEndT {τ : sw_St} {t : Nat → Nat} {N use b nn h g d base : Nat} {V C : List Nat} (hq : pm_qs τ t N use b V C d base) (ht : ∀ i, t i < 256) (hN : N ≤ 1600) (hb : b ≤ N) (hk : tk_k t N b ≠ 276 ∧ tk_k t N b ≠ 275) (hV : ∀ o ∈ V, o = 10 ∨ o = 11) : ∃ τ', pm_qH (nn + 1) (h + 1) (g + 1) τ = some ((), τ') ∧ pm_qs τ' t N use b [] (C ++ V) d base ∧ pm_qf τ τ' := by
  have hl := hq.2.2.2
  have hfu := sw_fuel_ge
  have n25 : 25 ∉ V := fun y => by have := hV 25 y; omega
  have e0 := pm_dn0 (nn := nn) hq.2.1 (by
    cases V with
    | nil => simp
    | cons o V' => exact fun z => by have := Option.some.inj (show some o = some 12 from z); have := hV o (by simp); omega)
  obtain ⟨τ1, p1, p2, p3⟩ := pm_goTx (h := h) hq ht hN hb ⟨hk.1, hk.2, fun _ => n25⟩
  have hq1 := hq.lx p3 (by decide) (p2.ps hb) (Nat.le_refl _)
  obtain ⟨τ2, q1, q2, q3⟩ := pm_t110 V C sw_fuel τ1 hq1.2.1 p2.2.2.1 (by omega)
  refine ⟨τ2, ?_, ⟨hq1.1.mv q3 (by decide) (by decide), q2, by rw [q3.2.1 48 (by decide)]; exact hq1.2.2.1, by simp at hl ⊢; omega⟩, (p3.mono (by decide) (by decide)).trans (q3.mono (by decide) (by decide))⟩
  unfold pm_qH
  rw [e0]
  dsimp only [Option.bind_some]
  rw [if_pos hq.1.2.2.1, p1, if_neg (by rw [decide_eq_false n25]; decide)]
  dsimp only [Option.bind_some]
  unfold q_tr
  rw [if_pos rfl]
  show S_X11_qTest_2 _ τ1 0 = _
  unfold S_X11_qTest_2
  rw [if_pos rfl]
  exact q1

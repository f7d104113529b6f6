/-! Tests: the reference goes on behind a fact. -/
noncomputable def q_tr (g : Nat) (q : Int32 × sw_St) : Option (Unit × sw_St) := if q.1 = 0 then L_X11_qTest_2 g q.2 0 else L_X11_qTest_2 g q.2 1
noncomputable def pm_qH (nn h g : Nat) (τ : sw_St) : Option (Unit × sw_St) := (L_X11_qDropsNots_0 nn τ).bind fun q4 => if (q4.2.1 0 5) = 0 then ((L_X11_qGoesOnTest_0 h q4.2).bind (q_tr g)) else L_X11_qTest_2 g q4.2 0
theorem pm_wt_at {τ : sw_St} : ∀ {W : List Nat} (i : Nat), pm_wt τ W → i < W.length → τ.1 72 i = nI (W.getD (W.length - 1 - i) 0)
  | [], i, h, hi => by simp at hi
  | o :: W, i, h, hi => by
    simp only [List.length_cons] at hi ⊢
    by_cases e : i = W.length
    · rw [e, h.1, show W.length + 1 - 1 - W.length = 0 by omega]
      rfl
    · have := pm_wt_at (W := W) i h.2 (by omega)
      rw [this, show W.length + 1 - 1 - i = (W.length - 1 - i) + 1 by omega]
      rfl
theorem pm_hsL {τ : sw_St} {W : List Nat} (hw : pm_wt τ W) (h97 : τ.1 0 97 = nI W.length) (hl : W.length ≤ 1650) (h1000 : ∀ o ∈ W, o < 1000) : ∀ (n fuel i : Nat), i + n = W.length → n < fuel → L_X11_qHasSquare_2 fuel τ (nI i) = some (g_ok1 (decide (25 ∈ W.take n)), τ)
  | 0, fuel + 1, i, hi, hf => by
    show S_X11_qHasSquare_2 _ τ (nI i) = _
    unfold S_X11_qHasSquare_2
    rw [h97, if_pos (nI_le (by omega) (by omega)), decide_eq_false (by simp)]
    rfl
  | n + 1, fuel + 1, i, hi, hf => by
    have hil : i < W.length := by omega
    have hnl : n < W.length := by omega
    have hm := h1000 _ (g_getD_mem (d := 0) hnl)
    have et : W.take (n + 1) = W.take n ++ [W.getD n 0] := by
      rw [List.take_succ_eq_append_getElem hnl, List.getD_eq_getElem?_getD, List.getElem?_eq_getElem hnl]
      rfl
    show S_X11_qHasSquare_2 _ τ (nI i) = _
    unfold S_X11_qHasSquare_2
    rw [h97, if_neg (nI_ge hil (by omega)), if_pos (pz_inb (by omega) (by omega)), nI_clamp (by omega), pm_wt_at i hw hil, show W.length - 1 - i = n by omega, et, nI_1]
    by_cases c : W.getD n 0 = 25
    · rw [if_pos (show nI (W.getD n 0) = 25 from by rw [c]; rfl), decide_eq_true (by rw [c]; simp)]
      rfl
    · rw [if_neg (show ¬ nI (W.getD n 0) = 25 from fun y => c ((nI_eq (b := 25) (by omega) (by omega)).mp y))]
      refine (pm_hsL hw h97 hl h1000 n fuel (i + 1) (by omega) (by omega)).trans ?_
      congr 3
      refine decide_eq_decide.mpr ⟨fun y => by simp [y], fun y => ?_⟩
      rcases List.mem_append.mp y with y | y
      · exact y
      · exact absurd (List.mem_singleton.mp y).symm c
theorem pm_hasSq {τ : sw_St} {W C : List Nat} {d base : Nat} (h : pm_q τ W C d base) : F_X11_qHasSquare τ = some (g_ok1 (decide (25 ∈ W)), τ) := by
  have hl := h.2.2.2.2.2.2.1
  have := pm_hsL h.1 h.2.2.1 (by omega) h.2.2.2.2.2.2.2.1 W.length sw_fuel 0 (by omega) (by have := sw_fuel_ge; omega)
  rw [List.take_length] at this
  exact this
theorem pm_dn0 {τ : sw_St} {W C : List Nat} {d base nn : Nat} (h : pm_q τ W C d base) (ht : W.head? ≠ some 12) : L_X11_qDropsNots_0 (nn + 1) τ = some ((), τ) := by
  show S_X11_qDropsNots_0 _ τ = _
  unfold S_X11_qDropsNots_0 S_X11_qDropsNots_33
  by_cases c : τ.1 0 5 = 0
  · rw [if_pos c, show F_X11_qIsOn τ 12 = _ from pm_qIsOn (x := 12) h (by omega), decide_eq_false ht]
    dsimp only [Option.bind_some]
    rw [if_pos (show g_ok1 false = 0 from rfl)]
  · rw [if_neg c]
theorem pm_dnW : ∀ (W C : List Nat) (d base fuel : Nat) (τ : sw_St), pm_q τ W C d base → τ.1 0 5 = 0 → W.length < fuel → (W.filter (fun o => decide (o = 12))).length ≤ d → ∃ τ', L_X11_qDropsNots_0 fuel τ = some ((), τ') ∧ τ'.1 0 5 = 0
  | [], C, d, base, fuel + 1, τ, h, h5, hf, hc => by
    exact ⟨τ, pm_dn0 h (by simp), h5⟩
  | o :: W, C, d, base, fuel + 1, τ, h, h5, hf, hc => by
    by_cases c : o = 12
    · match d with
      | 0 =>
        rw [c] at hc
        simp at hc
      | d + 1 =>
        obtain ⟨a1, a2, a3, a4, a5, a6, a7, a8, a9, a10⟩ := h
        have m1 : pm_sm [] [98] τ (sw_uI τ 0 98 (nI d)) := (pm_sm.refl _ _ τ).K (by decide) _
        obtain ⟨τ2, p1, p2, p3⟩ := pm_qDrops (τ := sw_uI τ 0 98 (nI d)) (W := W) (C := C) (d := d) (base := base) (o := o) ⟨pm_wt_cong (fun k _ => m1.r (by decide) (by decide) k) a1, fun i hi => by rw [m1.r (by decide) (by decide)]; exact a2 i hi, by rw [m1.2.1 97 (by decide)]; exact a3, by rw [m1.2.1 95 (by decide)]; exact a4, pz_Ie rfl rfl, by rw [m1.2.1 99 (by decide)]; exact a6, a7, a8, by omega, a10⟩
        have h52 : τ2.1 0 5 = 0 := by rw [p3.2.1 5 (by decide), m1.2.1 5 (by decide)]; exact h5
        obtain ⟨τ3, q1, q2⟩ := pm_dnW W (C ++ [o]) d base fuel τ2 p2 h52 (by simp at hf; omega) (by rw [c] at hc; simp at hc; exact hc)
        refine ⟨τ3, ?_, q2⟩
        show S_X11_qDropsNots_0 _ τ = _
        unfold S_X11_qDropsNots_0
        rw [if_pos h5, show F_X11_qIsOn τ 12 = _ from pm_qIsOn (x := 12) (W := o :: W) ⟨a1, a2, a3, a4, a5, a6, a7, a8, a9, a10⟩ (by omega), decide_eq_true (by rw [c]; rfl)]
        dsimp only [Option.bind_some]
        rw [if_neg (show ¬ g_ok1 true = 0 from pz_10), a5, show nI (d + 1) - 1 = nI d from nI_pred _, p1]
        exact q1
    · exact ⟨τ, pm_dn0 h (fun y => c (Option.some.inj (show some o = some 12 from y))), h5⟩
/-- a not has its fact -/
theorem pm_goNot {τ : sw_St} {t : Nat → Nat} {N use b nn h g d base : Nat} {W0 C : List Nat} (hq : pm_qs τ t N use b (12 :: W0) C (d + 1) base) : ∃ τ', pm_qH (nn + 1) h g τ = pm_qH nn h g τ' ∧ pm_qs τ' t N use b W0 (C ++ [12]) d base ∧ pm_qf τ τ' := by
  have hl := hq.2.2.2
  obtain ⟨a1, a2, a3, a4, a5, a6, a7, a8, a9, a10⟩ := hq.2.1
  have m1 : pm_sm [] [98] τ (sw_uI τ 0 98 (nI d)) := (pm_sm.refl _ _ τ).K (by decide) _
  obtain ⟨τ2, p1, p2, p3⟩ := pm_qDrops (τ := sw_uI τ 0 98 (nI d)) (W := W0) (C := C) (d := d) (base := base) (o := 12) ⟨pm_wt_cong (fun k _ => m1.r (by decide) (by decide) k) a1, fun i hi => by rw [m1.r (by decide) (by decide)]; exact a2 i hi, by rw [m1.2.1 97 (by decide)]; exact a3, by rw [m1.2.1 95 (by decide)]; exact a4, pz_Ie rfl rfl, by rw [m1.2.1 99 (by decide)]; exact a6, a7, a8, by omega, a10⟩
  have mm : pm_sm [71] [95, 97, 98] τ τ2 := (m1.mono (by decide) (by decide)).trans (p3.mono (by decide) (by decide))
  refine ⟨τ2, ?_, ⟨hq.1.mv mm (by decide) (by decide), p2, by rw [mm.2.1 48 (by decide)]; exact hq.2.2.1, by simp at hl ⊢; omega⟩, mm.mono (by decide) (by decide)⟩
  have eL : L_X11_qDropsNots_0 (nn + 1) τ = L_X11_qDropsNots_0 nn τ2 := by
    show S_X11_qDropsNots_0 _ τ = _
    unfold S_X11_qDropsNots_0
    rw [if_pos hq.1.2.2.1, show F_X11_qIsOn τ 12 = _ from pm_qIsOn (x := 12) hq.2.1 (by omega), decide_eq_true (show (12 :: W0).head? = some 12 from rfl)]
    dsimp only [Option.bind_some]
    rw [if_neg (show ¬ g_ok1 true = 0 from pz_10), a5, show nI (d + 1) - 1 = nI d from nI_pred _, p1]
    rfl
  unfold pm_qH
  rw [eL]
theorem pm_l87 {W0 : List Nat} {d base : Nat} (h0 : W0.head? ≠ some 10) : ∀ (V C : List Nat) (fuel : Nat) (τ : sw_St), pm_q τ (V ++ W0) C d base → (V ++ W0).length + C.length < 1650 → (∀ o ∈ V, o = 10) → V.length < fuel → ∃ τ', L_X11_qGoesOnTest_87 fuel τ = some (1, τ') ∧ pm_q τ' (10 :: W0) (C ++ V) d base ∧ pm_sm [71, 72] [95, 97] τ τ'
  | [], C, fuel + 1, τ, h, hl, hV, hf => by
    have h : pm_q τ W0 C d base := h
    have hl : W0.length + C.length < 1650 := hl
    obtain ⟨p1, p2⟩ := pm_push (o := 10) h hl (by omega)
    refine ⟨_, ?_, by rw [List.append_nil]; exact p1, p2.mono (by decide) (by decide)⟩
    show S_X11_qGoesOnTest_87 _ τ = _
    unfold S_X11_qGoesOnTest_87
    rw [show F_X11_qIsOn τ 10 = _ from pm_qIsOn (x := 10) h (by omega), decide_eq_false h0]
    dsimp only [Option.bind_some]
    rw [if_pos (show g_ok1 false = 0 from rfl), h.2.2.1, if_pos (pz_inb (by omega) (by omega)), nI_clamp (by omega), nI_1]
    rfl
  | o :: V, C, fuel + 1, τ, h, hl, hV, hf => by
    obtain ⟨τ1, p1, p2, p3⟩ := pm_qDrops (W := V ++ W0) (o := o) h
    have hl2 : (V ++ W0).length + 1 + C.length < 1650 := hl
    obtain ⟨τ2, q1, q2, q3⟩ := pm_l87 h0 V (C ++ [o]) fuel τ1 p2 (by simp at hl2 ⊢; omega) (fun o2 h2 => hV o2 (by simp [h2])) (by simp at hf; omega)
    refine ⟨τ2, ?_, by rw [List.append_assoc] at q2; exact q2, (p3.mono (by decide) (by decide)).trans q3⟩
    show S_X11_qGoesOnTest_87 _ τ = _
    unfold S_X11_qGoesOnTest_87
    rw [show F_X11_qIsOn τ 10 = _ from pm_qIsOn (x := 10) h (by omega), decide_eq_true (show (o :: V ++ W0).head? = some 10 from by rw [hV o (by simp)]; rfl)]
    dsimp only [Option.bind_some]
    rw [if_neg (show ¬ g_ok1 true = 0 from pz_10), p1]
    exact q1
theorem pm_l137 {W0 : List Nat} {d base : Nat} (h0 : W0.head? ≠ some 10) (h1 : W0.head? ≠ some 11) : ∀ (V C : List Nat) (fuel : Nat) (τ : sw_St), pm_q τ (V ++ W0) C d base → (V ++ W0).length + C.length < 1650 → (∀ o ∈ V, o = 10 ∨ o = 11) → V.length < fuel → ∃ τ', L_X11_qGoesOnTest_137 fuel τ = some (1, τ') ∧ pm_q τ' (11 :: W0) (C ++ V) d base ∧ pm_sm [71, 72] [95, 97] τ τ'
  | [], C, fuel + 1, τ, h, hl, hV, hf => by
    have h : pm_q τ W0 C d base := h
    have hl : W0.length + C.length < 1650 := hl
    obtain ⟨p1, p2⟩ := pm_push (o := 11) h hl (by omega)
    refine ⟨_, ?_, by rw [List.append_nil]; exact p1, p2.mono (by decide) (by decide)⟩
    show S_X11_qGoesOnTest_137 _ τ = _
    unfold S_X11_qGoesOnTest_137
    rw [show F_X11_qIsOn τ 10 = _ from pm_qIsOn (x := 10) h (by omega), decide_eq_false h0]
    dsimp only [Option.bind_some]
    rw [if_pos (show g_ok1 false = 0 from rfl), show F_X11_qIsOn τ 11 = _ from pm_qIsOn (x := 11) h (by omega), decide_eq_false h1]
    dsimp only [Option.bind_some]
    rw [if_pos (show g_ok1 false = 0 from rfl), h.2.2.1, if_pos (pz_inb (by omega) (by omega)), nI_clamp (by omega), nI_1]
    rfl
  | o :: V, C, fuel + 1, τ, h, hl, hV, hf => by
    obtain ⟨τ1, p1, p2, p3⟩ := pm_qDrops (W := V ++ W0) (o := o) h
    have hl2 : (V ++ W0).length + 1 + C.length < 1650 := hl
    obtain ⟨τ2, q1, q2, q3⟩ := pm_l137 h0 h1 V (C ++ [o]) fuel τ1 p2 (by simp at hl2 ⊢; omega) (fun o2 h2 => hV o2 (by simp [h2])) (by simp at hf; omega)
    refine ⟨τ2, ?_, by rw [List.append_assoc] at q2; exact q2, (p3.mono (by decide) (by decide)).trans q3⟩
    show S_X11_qGoesOnTest_137 _ τ = _
    unfold S_X11_qGoesOnTest_137 S_X11_qGoesOnTest_155
    rw [show F_X11_qIsOn τ 10 = _ from pm_qIsOn (x := 10) h (by omega)]
    dsimp only [Option.bind_some]
    by_cases c : o = 10
    · rw [decide_eq_true (show (o :: V ++ W0).head? = some 10 from by rw [c]; rfl), if_neg (show ¬ g_ok1 true = 0 from pz_10), p1]
      exact q1
    · have c2 : o = 11 := by have := hV o (by simp); omega
      rw [decide_eq_false (show ¬ (o :: V ++ W0).head? = some 10 from fun y => c (Option.some.inj y)), if_pos (show g_ok1 false = 0 from rfl), show F_X11_qIsOn τ 11 = _ from pm_qIsOn (x := 11) h (by omega), decide_eq_true (show (o :: V ++ W0).head? = some 11 from by rw [c2]; rfl)]
      dsimp only [Option.bind_some]
      rw [if_neg (show ¬ g_ok1 true = 0 from pz_10), p1]
      exact q1
/-- behind a fact, no square that closes -/
theorem pm_goT {τ : sw_St} {t : Nat → Nat} {N b h : Nat} (hp : pm_ps τ t N b) (ht : ∀ i, t i < 256) (hN : N ≤ 1600) (hb : b ≤ N) (hk : tk_k t N b ≠ 93) : ∃ τ', L_X11_qGoesOnTest_0 (h + 1) τ = S_X11_qGoesOnTest_76 τ' ∧ pm_ps τ' t N b ∧ pm_sm [] [2] τ τ' := by
  obtain ⟨τ1, p1, p2, p3⟩ := pm_look hp ht hN hb
  refine ⟨τ1, ?_, p2.ps hb, p3⟩
  show S_X11_qGoesOnTest_0 _ τ = _
  unfold S_X11_qGoesOnTest_0
  rw [if_pos hp.2.2.1, p1]
  dsimp only [Option.bind_some]
  rw [if_neg (show ¬ tk_c t N b = 93 from fun y => hk ((pm_cIs ht (by unfold tk_sgn; omega)).mp y))]
theorem pm_goAnd {τ : sw_St} {t : Nat → Nat} {N use b nn h g d base : Nat} {V W0 C : List Nat} (hq : pm_qs τ t N use b (V ++ W0) C d base) (ht : ∀ i, t i < 256) (hN : N ≤ 1600) (hb : b ≤ N) (hk : tk_k t N b = 276) (hV : V = [] ∨ V = [10]) (h0 : W0.head? ≠ some 10) (h12 : W0.head? ≠ some 12) : ∃ τ', pm_qH (nn + 1) (h + 1) g τ = L_X11_qTest_2 g τ' 1 ∧ pm_qs τ' t N use (tk_e t N b) (10 :: W0) (C ++ V) d base ∧ pm_qf τ τ' := by
  have hgt := tk_e_gt hb (show tk_k t N b ≠ 301 by omega)
  have hl := hq.2.2.2
  have e0 := pm_dn0 (nn := nn) hq.2.1 (by
    rcases hV with y | y
    · rw [y]; exact h12
    · rw [y]; exact fun z => by have := Option.some.inj (show some 10 = some 12 from z); omega)
  obtain ⟨τ1, p1, p2, p3⟩ := pm_goT (h := h) hq.1 ht hN hb (by omega)
  obtain ⟨τ2, q1, q2, q3⟩ := (pm_takes (x := (54, 276)) p2 ht hN hb (by decide)).1 hk
  have m2 := (p3.mono (S' := []) (K' := [2, 4]) (by decide) (by decide)).trans q3
  have hq2 := hq.lx m2 (by decide) q2 (by omega)
  obtain ⟨τ3, r1, r2, r3⟩ := pm_l87 (W0 := W0) h0 V C sw_fuel τ2 hq2.2.1 (by omega) (fun o ho => by
    rcases hV with y | y
    · rw [y] at ho; simp at ho
    · rw [y] at ho; simp at ho; exact ho) (by have := sw_fuel_ge; rcases hV with y | y <;> rw [y] <;> simp <;> omega)
  refine ⟨τ3, ?_, ⟨q2.mv r3 (by decide) (by decide), r2, by rw [r3.2.1 48 (by decide)]; exact hq2.2.2.1, by simp at hl ⊢; omega⟩, (m2.mono (by decide) (by decide)).trans (r3.mono (by decide) (by decide))⟩
  unfold pm_qH
  rw [e0]
  dsimp only [Option.bind_some]
  rw [if_pos hq.1.2.2.1, p1]
  unfold S_X11_qGoesOnTest_76
  rw [show F_X11_takes τ1 54 = _ from q1]
  dsimp only [Option.bind_some]
  rw [if_neg pz_10, r1]
  dsimp only [Option.bind_some]
  unfold q_tr
  rw [if_neg pz_10]
theorem pm_goOr {τ : sw_St} {t : Nat → Nat} {N use b nn h g d base : Nat} {V W0 C : List Nat} (hq : pm_qs τ t N use b (V ++ W0) C d base) (ht : ∀ i, t i < 256) (hN : N ≤ 1600) (hb : b ≤ N) (hk : tk_k t N b = 275) (hV : ∀ o ∈ V, o = 10 ∨ o = 11) (hV2 : V.length ≤ 2) (h0 : W0.head? ≠ some 10) (h1 : W0.head? ≠ some 11) (h12 : W0.head? ≠ some 12) : ∃ τ', pm_qH (nn + 1) (h + 1) g τ = L_X11_qTest_2 g τ' 1 ∧ pm_qs τ' t N use (tk_e t N b) (11 :: W0) (C ++ V) d base ∧ pm_qf τ τ' := by
  have hgt := tk_e_gt hb (show tk_k t N b ≠ 301 by omega)
  have hl := hq.2.2.2
  have e0 := pm_dn0 (nn := nn) hq.2.1 (by
    cases V with
    | nil => exact h12
    | cons o V' => exact fun z => by have := Option.some.inj (show some o = some 12 from z); have := hV o (by simp); omega)
  obtain ⟨τ1, p1, p2, p3⟩ := pm_goT (h := h) hq.1 ht hN hb (by omega)
  obtain ⟨τ2, q1, q2, q3⟩ := (pm_takes (x := (54, 276)) p2 ht hN hb (by decide)).2 (by (try dsimp only); omega)
  obtain ⟨τ3, r1, r2, r3⟩ := (pm_takes (x := (55, 275)) (q2.ps hb) ht hN hb (by decide)).1 hk
  have m3 := ((p3.trans q3).mono (S' := []) (K' := [2, 4]) (by decide) (by decide)).trans r3
  have hq3 := hq.lx m3 (by decide) r2 (by omega)
  obtain ⟨τ4, u1, u2, u3⟩ := pm_l137 (W0 := W0) h0 h1 V C sw_fuel τ3 hq3.2.1 (by omega) hV (by have := sw_fuel_ge; omega)
  refine ⟨τ4, ?_, ⟨r2.mv u3 (by decide) (by decide), u2, by rw [u3.2.1 48 (by decide)]; exact hq3.2.2.1, by simp at hl ⊢; omega⟩, (m3.mono (by decide) (by decide)).trans (u3.mono (by decide) (by decide))⟩
  unfold pm_qH
  rw [e0]
  dsimp only [Option.bind_some]
  rw [if_pos hq.1.2.2.1, p1]
  unfold S_X11_qGoesOnTest_76
  rw [show F_X11_takes τ1 54 = _ from q1]
  dsimp only [Option.bind_some]
  rw [if_pos rfl, show F_X11_takes τ2 55 = _ from r1]
  dsimp only [Option.bind_some]
  rw [if_neg pz_10, u1]
  dsimp only [Option.bind_some]
  unfold q_tr
  rw [if_neg pz_10]

/-! The reference's row of what waits. -/
def pm_wt (τ : sw_St) : List Nat → Prop
  | [] => True
  | o :: W => τ.1 72 W.length = nI o ∧ pm_wt τ W
theorem pm_wt_cong {τ τ' : sw_St} : ∀ {W : List Nat}, (∀ k, k < W.length → τ'.1 72 k = τ.1 72 k) → pm_wt τ W → pm_wt τ' W
  | [], _, _ => trivial
  | o :: W, h, hs => ⟨by rw [h _ (by simp)]; exact hs.1, pm_wt_cong (fun k hk => h k (by simp; omega)) hs.2⟩
theorem pm_wt_app {τ : sw_St} : ∀ {V W : List Nat}, pm_wt τ (V ++ W) → pm_wt τ W
  | [], _, h => h
  | _ :: V, _, h => pm_wt_app (V := V) h.2
def pm_q (τ : sw_St) (W C : List Nat) (d base : Nat) : Prop := pm_wt τ W ∧ (∀ i, i < C.length → τ.1 71 i = nI (C.getD i 0)) ∧ τ.1 0 97 = nI W.length ∧ τ.1 0 95 = nI C.length ∧ τ.1 0 98 = nI d ∧ τ.1 0 99 = nI base ∧ W.length + C.length ≤ 1650 ∧ (∀ o ∈ W, o < 1000) ∧ d ≤ 10 ∧ base ≤ 1650
theorem pm_q.mv {τ τ' : sw_St} {W C : List Nat} {d base : Nat} {K : List Nat} (h : pm_q τ W C d base) (m : pm_sm [] K τ τ') (hK : ∀ k ∈ K, k < 95) : pm_q τ' W C d base := by
  obtain ⟨a1, a2, a3, a4, a5, a6, a7⟩ := h
  have n : ∀ k, 95 ≤ k → τ'.1 0 k = τ.1 0 k := fun k hk => m.2.1 k (fun y => by have := hK k y; omega)
  exact ⟨pm_wt_cong (fun k _ => m.r (by decide) (by simp) k) a1, fun i hi => by rw [m.r (by decide) (by simp)]; exact a2 i hi, by rw [n 97 (by omega)]; exact a3, by rw [n 95 (by omega)]; exact a4, by rw [n 98 (by omega)]; exact a5, by rw [n 99 (by omega)]; exact a6, a7⟩
theorem pm_ps.mv {τ τ' : sw_St} {t : Nat → Nat} {N b : Nat} {S K : List Nat} (h : pm_ps τ t N b) (m : pm_sm S K τ τ') (hS : ∀ o ∈ S, 71 ≤ o ∧ o ≤ 73) (hK : ∀ k ∈ K, 46 ≤ k) : pm_ps τ' t N b := by
  have n : ∀ k, k < 46 → τ'.1 0 k = τ.1 0 k := fun k hk => m.2.1 k (fun y => by have := hK k y; omega)
  obtain ⟨a1, ⟨a, b1, b2, b3⟩, a3, e, e1, e2⟩ := h
  exact ⟨a1.mv m hS ⟨fun y => by have := hK _ y; omega, fun y => by have := hK _ y; omega⟩, ⟨a, b1, b2, by rw [n 2 (by omega)]; exact b3⟩, by rw [n 5 (by omega)]; exact a3, e, by rw [n 4 (by omega)]; exact e1, e2⟩
def pm_qf (τ τ' : sw_St) : Prop := pm_sm [71, 72] [2, 4, 5, 6, 10, 36, 95, 97, 98, 99] τ τ'
/-- what lies on the row -/
theorem pm_qCode {τ : sw_St} {W C : List Nat} {d base o : Nat} (h : pm_q τ W C d base) (hl : W.length + C.length < 1650) : ∃ τ', F_X11_qCode τ (nI o) = some ((), τ') ∧ pm_q τ' W (C ++ [o]) d base ∧ pm_sm [71] [95] τ τ' := by
  obtain ⟨a1, a2, a3, a4, a5, a6, a7, a8, a9, a10⟩ := h
  have m : pm_sm [71] [95] τ (sw_uI (sw_uI τ 71 C.length (nI o)) 0 95 (nI (C.length + 1))) := ((pm_sm.refl _ _ τ).I (by decide) (by decide) _ _).K (by decide) _
  refine ⟨_, ?_, ⟨pm_wt_cong (fun k _ => m.r (by decide) (by decide) k) a1, fun i hi => ?_, by rw [m.2.1 97 (by decide)]; exact a3, by rw [pz_Ie rfl rfl]; simp, by rw [m.2.1 98 (by decide)]; exact a5, by rw [m.2.1 99 (by decide)]; exact a6, by simp; omega, a8, a9, a10⟩, m⟩
  · unfold F_X11_qCode
    rw [a4, if_pos (pz_inb (by omega) (by omega)), nI_clamp (by omega), nI_1]
  · rw [List.length_append] at hi
    by_cases e : i < C.length
    · rw [pz_Io (by decide), pz_Ik (by omega), a2 i e, List.getD_eq_getElem?_getD, List.getD_eq_getElem?_getD, List.getElem?_append_left e]
    · simp only [List.length_cons, List.length_nil] at hi
      have e2 : i = C.length := by omega
      rw [e2, pz_Io (by decide), pz_Ie rfl rfl, List.getD_eq_getElem?_getD, List.getElem?_append_right (Nat.le_refl _), Nat.sub_self]
      rfl
theorem pm_qDrops {τ : sw_St} {W C : List Nat} {d base o : Nat} (h : pm_q τ (o :: W) C d base) : ∃ τ', F_X11_qDrops τ = some ((), τ') ∧ pm_q τ' W (C ++ [o]) d base ∧ pm_sm [71] [95, 97] τ τ' := by
  obtain ⟨a1, a2, a3, a4, a5, a6, a7, a8, a9, a10⟩ := h
  simp only [List.length_cons] at a3 a7
  have m1 : pm_sm [] [97] τ (sw_uI τ 0 97 (nI W.length)) := (pm_sm.refl _ _ τ).K (by decide) _
  obtain ⟨τ', p1, p2, p3⟩ := pm_qCode (τ := sw_uI τ 0 97 (nI W.length)) (W := W) (C := C) (d := d) (base := base) (o := o) ⟨pm_wt_cong (fun k _ => m1.r (by decide) (by decide) k) a1.2, fun i hi => by rw [m1.r (by decide) (by decide)]; exact a2 i hi, pz_Ie rfl rfl, by rw [m1.2.1 95 (by decide)]; exact a4, by rw [m1.2.1 98 (by decide)]; exact a5, by rw [m1.2.1 99 (by decide)]; exact a6, by omega, fun o2 h2 => a8 o2 (by simp [h2]), a9, a10⟩ (by omega)
  refine ⟨τ', ?_, p2, (m1.mono (by decide) (by decide)).trans (p3.mono (by decide) (by decide))⟩
  unfold F_X11_qDrops
  rw [a3, show nI (W.length + 1) - 1 = nI W.length from nI_pred _, if_pos (pz_inb (by omega) (by omega)), nI_clamp (by omega), a1.1, p1]
  rfl
theorem pm_qIsOn {τ : sw_St} {W C : List Nat} {d base x : Nat} (h : pm_q τ W C d base) (hx : x < 1000) : F_X11_qIsOn τ (nI x) = some (g_ok1 (decide (W.head? = some x)), τ) := by
  obtain ⟨a1, a2, a3, a4, a5, a6, a7, a8, a9, a10⟩ := h
  unfold F_X11_qIsOn S_X11_qIsOn_26 S_X11_qIsOn_27
  cases W with
  | nil =>
    rw [a3, if_pos (Or.inl rfl), if_pos (Or.inr rfl), if_pos (show nI ([] : List Nat).length ≤ 0 from nI_le (b := 0) (Nat.le_refl _) (by omega)), decide_eq_false (by simp)]
    rfl
  | cons o W =>
    have ho := a8 o (by simp)
    simp only [List.length_cons] at a7
    rw [show τ.1 0 97 = nI (W.length + 1) from a3, if_pos (Or.inl rfl), if_pos (Or.inr rfl), if_neg (nI_nle (by omega) (by omega)), show nI (W.length + 1) - 1 = nI W.length from nI_pred _, if_pos (pz_inb (by omega) (by omega)), nI_clamp (by omega), a1.1]
    by_cases e : o = x
    · rw [if_pos (by rw [e]), decide_eq_true (by rw [e]; rfl)]
      rfl
    · rw [if_neg (fun y => e (by rw [nI_eq (by omega) (by omega)] at y; exact y)), decide_eq_false (by simpa using e)]
      rfl
theorem pm_push {τ : sw_St} {W C : List Nat} {d base o : Nat} (h : pm_q τ W C d base) (hl : W.length + C.length < 1650) (ho : o < 1000) : pm_q (sw_uI (sw_uI τ 72 W.length (nI o)) 0 97 (nI (W.length + 1))) (o :: W) C d base ∧ pm_sm [72] [97] τ (sw_uI (sw_uI τ 72 W.length (nI o)) 0 97 (nI (W.length + 1))) := by
  obtain ⟨a1, a2, a3, a4, a5, a6, a7, a8, a9, a10⟩ := h
  have m : pm_sm [72] [97] τ (sw_uI (sw_uI τ 72 W.length (nI o)) 0 97 (nI (W.length + 1))) := ((pm_sm.refl _ _ τ).I (by decide) (by decide) _ _).K (by decide) _
  refine ⟨⟨⟨by rw [pz_Io (by decide), pz_Ie rfl rfl], pm_wt_cong (fun k hk => by rw [pz_Io (by decide), pz_Ik (by omega)]) a1⟩, fun i hi => by rw [m.r (by decide) (by decide)]; exact a2 i hi, pz_Ie rfl rfl, by rw [m.2.1 95 (by decide)]; exact a4, by rw [m.2.1 98 (by decide)]; exact a5, by rw [m.2.1 99 (by decide)]; exact a6, by simp; omega, fun o2 h2 => ?_, a9, a10⟩, m⟩
  rcases List.mem_cons.mp h2 with e | e
  · rw [e]; exact ho
  · exact a8 o2 e
theorem pm_isBr {τ : sw_St} {o : Nat} (ho : o < 1000) : F_X11_qIsBracket τ (nI o) = some (g_ok1 (decide (20 ≤ o ∧ o ≤ 24)), τ) := by
  unfold F_X11_qIsBracket S_X11_qIsBracket_16 S_X11_qIsBracket_17
  rw [if_pos (Or.inl rfl), if_pos (Or.inr rfl)]
  by_cases c1 : o < 20
  · rw [if_pos (show nI o < 20 from nI_lt (b := 20) c1 (by omega)), decide_eq_false (by omega)]
    rfl
  · rw [if_neg (show ¬ nI o < 20 from nI_nlt (b := 20) (by omega) (by omega))]
    by_cases c2 : 24 < o
    · rw [if_pos (show (24 : Int32) < nI o from nI_lt (a := 24) c2 (by omega)), decide_eq_false (by omega)]
      rfl
    · rw [if_neg (show ¬ (24 : Int32) < nI o from nI_nlt (a := 24) (by omega) (by omega)), decide_eq_true (by omega)]
      rfl
theorem nI_mm {n : Nat} (h0 : 0 < n) (h : n < 2 ^ 30) : nI n + (-1) = nI (n - 1) := by
  rw [fa_eq, fb_addI, nI_toInt (by omega), nI_toInt (by omega), pz_m1]
  · omega
  · rw [nI_toInt (by omega), pz_m1]; omega
  · rw [nI_toInt (by omega), pz_m1]; omega
/-- what is open last above the base: brackets behind what waits -/
theorem pm_brl {τ : sw_St} {base br : Nat} {W0 : List Nat} (hbr : 20 ≤ br ∧ br ≤ 24) (hb0 : base ≤ W0.length) (h99 : τ.1 0 99 = nI base) : ∀ (V : List Nat) (fuel : Nat), pm_wt τ (V ++ br :: W0) → (∀ o ∈ V, o < 20) → (V ++ br :: W0).length ≤ 1650 → V.length < fuel → L_X11_qBracket_7 fuel τ (nI ((V ++ br :: W0).length - 1)) = some (nI br, τ)
  | [], fuel + 1, hw, hV, hl, hf => by
    simp only [List.nil_append, List.length_cons] at hl ⊢
    show S_X11_qBracket_7 _ τ (nI (W0.length + 1 - 1)) = _
    unfold S_X11_qBracket_7 S_X11_qBracket_33 S_X11_qBracket_51
    rw [h99, Nat.add_sub_cancel, if_neg (nI_nlt (by omega) (by omega)), if_pos (pz_inb (by omega) (by omega)), nI_clamp (by omega), hw.1, pm_isBr (by omega), decide_eq_true hbr]
    dsimp only [Option.bind_some]
    rw [if_neg (show ¬ g_ok1 true = 0 from pz_10), h99, if_neg (nI_nlt (by omega) (by omega)), hw.1, if_pos (pz_inb (by omega) (by omega))]
  | o :: V, fuel + 1, hw, hV, hl, hf => by
    have ho := hV o (by simp)
    have hl2 : (V ++ br :: W0).length + 1 ≤ 1650 := by simp at hl ⊢; omega
    have hge : W0.length + 1 ≤ (V ++ br :: W0).length := by simp
    have ih := pm_brl hbr hb0 h99 V fuel hw.2 (fun o2 h2 => hV o2 (by simp [h2])) (by omega) (by simp at hf; omega)
    show S_X11_qBracket_7 _ τ (nI ((V ++ br :: W0).length + 1 - 1)) = _
    unfold S_X11_qBracket_7
    rw [h99, Nat.add_sub_cancel, if_neg (nI_nlt (by omega) (by omega)), if_pos (pz_inb (by omega) (by omega)), nI_clamp (by omega), show τ.1 72 (V ++ br :: W0).length = nI o from hw.1, pm_isBr (by omega), decide_eq_false (by omega)]
    dsimp only [Option.bind_some]
    rw [if_pos (show g_ok1 false = 0 from rfl), nI_mm (by omega) (by omega)]
    exact ih
theorem pm_bracket {τ : sw_St} {V W0 C : List Nat} {d base br : Nat} (h : pm_q τ (V ++ br :: W0) C d base) (hV : ∀ o ∈ V, o < 20) (hbr : 20 ≤ br ∧ br ≤ 24) (hb0 : base ≤ W0.length) : F_X11_qBracket τ = some (nI br, τ) := by
  have hl := h.2.2.2.2.2.2.1
  unfold F_X11_qBracket
  rw [h.2.2.1, show nI (V ++ br :: W0).length - 1 = nI ((V ++ br :: W0).length - 1) from pk_sub (b := 1) (by simp; omega)]
  exact pm_brl hbr hb0 h.2.2.2.2.2.1 V sw_fuel h.1 hV (by omega) (by have := sw_fuel_ge; simp at hl; omega)
theorem pm_br0 {τ : sw_St} {base : Nat} {W0 : List Nat} (hb0 : base = W0.length) (h99 : τ.1 0 99 = nI base) : ∀ (V : List Nat) (fuel : Nat), pm_wt τ (V ++ W0) → (∀ o ∈ V, o < 20) → (V ++ W0).length ≤ 1650 → V.length < fuel → L_X11_qBracket_7 fuel τ (g_m1 (V ++ W0).length) = some (-1, τ)
  | [], fuel + 1, hw, hV, hl, hf => by
    simp only [List.nil_append] at hl ⊢
    show S_X11_qBracket_7 _ τ (g_m1 W0.length) = _
    unfold S_X11_qBracket_7 S_X11_qBracket_33 S_X11_qBracket_51
    rw [h99, if_pos ((g_m1_lt (by omega) (by omega)).mpr (by omega)), if_pos ((g_m1_lt (by omega) (by omega)).mpr (by omega))]
  | o :: V, fuel + 1, hw, hV, hl, hf => by
    have ho := hV o (by simp)
    have hl2 : (V ++ W0).length + 1 ≤ 1650 := by simp at hl ⊢; omega
    have hge : W0.length ≤ (V ++ W0).length := by simp
    have ih := pm_br0 hb0 h99 V fuel hw.2 (fun o2 h2 => hV o2 (by simp [h2])) (by omega) (by simp at hf; omega)
    show S_X11_qBracket_7 _ τ (g_m1 ((V ++ W0).length + 1)) = _
    unfold S_X11_qBracket_7
    rw [h99, g_m1_s, if_neg (nI_nlt (by omega) (by omega)), if_pos (pz_inb (by omega) (by omega)), nI_clamp (by omega), show τ.1 72 (V ++ W0).length = nI o from hw.1, pm_isBr (by omega), decide_eq_false (by omega)]
    dsimp only [Option.bind_some]
    rw [if_pos (show g_ok1 false = 0 from rfl), show nI (V ++ W0).length + (-1) = g_m1 (V ++ W0).length from by
      rw [fa_eq, g_m1_toInt (by omega), fb_addI, nI_toInt (by omega), pz_m1]
      · omega
      · rw [nI_toInt (by omega), pz_m1]; omega
      · rw [nI_toInt (by omega), pz_m1]; omega]
    exact ih
theorem pm_bracket0 {τ : sw_St} {V W0 C : List Nat} {d base : Nat} (h : pm_q τ (V ++ W0) C d base) (hV : ∀ o ∈ V, o < 20) (hb0 : base = W0.length) : F_X11_qBracket τ = some (-1, τ) := by
  have hl := h.2.2.2.2.2.2.1
  unfold F_X11_qBracket
  rw [h.2.2.1, show nI (V ++ W0).length - 1 = g_m1 (V ++ W0).length from by
    unfold g_m1
    by_cases e : (V ++ W0).length = 0
    · rw [if_pos e, e]
      decide
    · rw [if_neg e]
      exact pk_sub (b := 1) (by omega)]
  exact pm_br0 hb0 h.2.2.2.2.2.1 V sw_fuel h.1 hV (by omega) (by have := sw_fuel_ge; simp at hl; omega)
theorem pm_dtb {base br d : Nat} {W0 : List Nat} (hbr : 20 ≤ br ∧ br ≤ 24) (hb0 : base ≤ W0.length) : ∀ (V C : List Nat) (fuel : Nat) (τ : sw_St), pm_q τ (V ++ br :: W0) C d base → (∀ o ∈ V, o < 20) → V.length < fuel → ∃ τ', L_X11_qDropsToBracket_0 fuel τ = some ((), τ') ∧ pm_q τ' (br :: W0) (C ++ V) d base ∧ pm_sm [71] [95, 97] τ τ'
  | [], C, fuel + 1, τ, h, hV, hf => by
    have hl := h.2.2.2.2.2.2.1
    simp at hl
    refine ⟨τ, ?_, by rw [List.append_nil]; exact h, pm_sm.refl _ _ _⟩
    show S_X11_qDropsToBracket_0 _ τ = _
    unfold S_X11_qDropsToBracket_0 S_X11_qDropsToBracket_35
    rw [h.2.2.1, h.2.2.2.2.2.1]
    simp only [List.nil_append, List.length_cons]
    rw [if_neg (nI_ge (by omega) (by omega)), show nI (W0.length + 1) - 1 = nI W0.length from nI_pred _, if_pos (pz_inb (by omega) (by omega)), nI_clamp (by omega), show τ.1 72 W0.length = nI br from h.1.1, pm_isBr (by omega), decide_eq_true hbr]
    dsimp only [Option.bind_some]
    rw [if_neg (show ¬ g_ok1 true = 0 from pz_10)]
  | o :: V, C, fuel + 1, τ, h, hV, hf => by
    have ho := hV o (by simp)
    have hl := h.2.2.2.2.2.2.1
    have hge : W0.length + 1 ≤ (V ++ br :: W0).length := by simp
    have hl2 : (V ++ br :: W0).length + 1 + C.length ≤ 1650 := by simp at hl ⊢; omega
    obtain ⟨τ1, p1, p2, p3⟩ := pm_qDrops (W := V ++ br :: W0) (o := o) h
    obtain ⟨τ2, q1, q2, q3⟩ := pm_dtb hbr hb0 V (C ++ [o]) fuel τ1 p2 (fun o2 h2 => hV o2 (by simp [h2])) (by simp at hf; omega)
    refine ⟨τ2, ?_, by rw [List.append_assoc] at q2; exact q2, p3.trans q3⟩
    show S_X11_qDropsToBracket_0 _ τ = _
    unfold S_X11_qDropsToBracket_0
    rw [h.2.2.1, h.2.2.2.2.2.1, show (o :: V ++ br :: W0).length = (V ++ br :: W0).length + 1 from rfl, if_neg (nI_ge (by omega) (by omega)), show nI ((V ++ br :: W0).length + 1) - 1 = nI (V ++ br :: W0).length from nI_pred _, if_pos (pz_inb (by omega) (by omega)), nI_clamp (by omega), show τ.1 72 (V ++ br :: W0).length = nI o from h.1.1, pm_isBr (by omega), decide_eq_false (by omega)]
    dsimp only [Option.bind_some]
    rw [if_pos (show g_ok1 false = 0 from rfl), p1]
    exact q1
theorem pm_toBr {τ : sw_St} {V W0 C : List Nat} {d base br : Nat} (h : pm_q τ (V ++ br :: W0) C d base) (hV : ∀ o ∈ V, o < 20) (hbr : 20 ≤ br ∧ br ≤ 24) (hb0 : base ≤ W0.length) : ∃ τ', F_X11_qDropsToBracket τ = some ((), τ') ∧ pm_q τ' (br :: W0) (C ++ V) d base ∧ pm_sm [71] [95, 97] τ τ' := by
  have hl := h.2.2.2.2.2.2.1
  exact pm_dtb hbr hb0 V C sw_fuel τ h hV (by have := sw_fuel_ge; simp at hl; omega)
/-- all down to the base -/
theorem pm_tob {base d : Nat} {W0 : List Nat} {x : Int32} (hb0 : base = W0.length) : ∀ (V C : List Nat) (fuel : Nat) (τ : sw_St), pm_q τ (V ++ W0) C d base → τ.1 0 5 = 0 → V.length < fuel → ∃ τ', L_X11_qSums_53 fuel τ x = some ((), sw_uI τ' 0 99 x) ∧ pm_q τ' W0 (C ++ V) d base ∧ pm_sm [71] [95, 97] τ τ'
  | [], C, fuel + 1, τ, h, h5, hf => by
    have hl := h.2.2.2.2.2.2.1
    simp at hl
    refine ⟨τ, ?_, by rw [List.append_nil]; exact h, pm_sm.refl _ _ _⟩
    show S_X11_qSums_53 _ τ x = _
    unfold S_X11_qSums_53 S_X11_qSums_78
    rw [if_pos h5, h.2.2.1, h.2.2.2.2.2.1]
    simp only [List.nil_append]
    rw [if_pos (nI_le (by omega) (by omega))]
  | o :: V, C, fuel + 1, τ, h, h5, hf => by
    have hl := h.2.2.2.2.2.2.1
    have hge : W0.length ≤ (V ++ W0).length := by simp
    have hl2 : (V ++ W0).length + 1 + C.length ≤ 1650 := by simp at hl ⊢; omega
    obtain ⟨τ1, p1, p2, p3⟩ := pm_qDrops (W := V ++ W0) (o := o) h
    obtain ⟨τ2, q1, q2, q3⟩ := pm_tob (x := x) hb0 V (C ++ [o]) fuel τ1 p2 (by rw [p3.2.1 5 (by decide)]; exact h5) (by simp at hf; omega)
    refine ⟨τ2, ?_, by rw [List.append_assoc] at q2; exact q2, p3.trans q3⟩
    show S_X11_qSums_53 _ τ x = _
    unfold S_X11_qSums_53
    rw [if_pos h5, h.2.2.1, h.2.2.2.2.2.1, show (o :: V ++ W0).length = (V ++ W0).length + 1 from rfl, if_neg (nI_ge (by omega) (by omega)), p1]
    exact q1
/-- a part has ended: nothing of what waits is one with a part behind it -/
theorem pm_endsL {τ : sw_St} {W C : List Nat} {d base e : Nat} (h : pm_q τ W C d base) (hb0 : base ≤ W.length) (ht : W.length = base ∨ ∃ o W', W = o :: W' ∧ o < 60) : L_X11_qEndsPart_0 (e + 1) τ = some ((), τ) := by
  have hl := h.2.2.2.2.2.2.1
  show S_X11_qEndsPart_0 _ τ = _
  unfold S_X11_qEndsPart_0 S_X11_qEndsPart_51
  rw [h.2.2.1, h.2.2.2.2.2.1]
  by_cases c : τ.1 0 5 = 0
  · rw [if_pos c]
    by_cases e : W.length = base
    · rw [if_pos (nI_le (by omega) (by omega))]
    · rcases ht with ht | ⟨o, W', hW, ho⟩
      · exact absurd ht e
      · rw [if_neg (nI_ge (by omega) (by omega))]
        have h1 := h.1
        rw [hW] at h1
        rw [show nI W.length - 1 = nI (W.length - 1) from pk_sub (b := 1) (by rw [hW]; simp), if_pos (pz_inb (by omega) (by omega)), nI_clamp (by omega), show W.length - 1 = W'.length by rw [hW]; rfl, h1.1, if_pos (show nI o < 60 from nI_lt (b := 60) ho (by omega))]
  · rw [if_neg c]

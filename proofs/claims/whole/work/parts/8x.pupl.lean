/-! upland: the reference. -/
theorem pm_h60 : ∀ (k fuel i : Nat) (τ : sw_St), i + k = 3 → k < fuel → ∃ τ', L_X11_upland_60 fuel τ (nI i) = L_X11_upland_83 sw_fuel (sw_uI τ' 0 47 0) ∧ (∀ x, i ≤ x → x < 3 → τ'.1 34 x = -1) ∧ (∀ x, x < i → τ'.1 34 x = τ.1 34 x) ∧ pm_sm [34] [] τ τ' ∧ pm_uf [] τ τ'
  | 0, fuel + 1, i, τ, hi, hf => by
    refine ⟨τ, ?_, fun x h1 h2 => by omega, fun x _ => rfl, pm_sm.refl _ _ _, pm_uf.refl _ _⟩
    show S_X11_upland_60 _ τ (nI i) = _
    unfold S_X11_upland_60
    rw [if_pos (show (3 : Int32) ≤ nI i from nI_le (a := 3) (by omega) (by omega))]
  | k + 1, fuel + 1, i, τ, hi, hf => by
    obtain ⟨τ', p1, p2, p3, p4, p5⟩ := pm_h60 k fuel (i + 1) (sw_uI τ 34 i (-1)) (by omega) (by omega)
    refine ⟨τ', ?_, fun x h1 h2 => ?_, fun x hx => ?_, ((pm_sm.refl _ _ τ).I (by decide) (by decide) _ _).trans p4, ((pm_uf.refl _ τ).I (by decide) (by unfold pm_kp; omega) _).trans p5⟩
    · show S_X11_upland_60 _ τ (nI i) = _
      unfold S_X11_upland_60
      rw [if_neg (show ¬ (3 : Int32) ≤ nI i from nI_ge (b := 3) (by omega) (by omega)), if_pos (pz_inb (n := i) (N := 6) (by omega) (by omega)), nI_clamp (show i < 2 ^ 31 by omega), nI_1]
      exact p1
    · by_cases d : x = i
      · rw [d, p3 i (by omega), pz_Ie rfl rfl]
      · exact p2 x (by omega) h2
    · rw [p3 x (by omega), pz_Ik (by omega)]
theorem pm_h40 : ∀ (k fuel i : Nat) (τ : sw_St), i + k = 4 → k < fuel → ∃ τ', L_X11_upland_40 fuel τ (nI i) = L_X11_upland_60 sw_fuel τ' 0 ∧ (∀ x, i ≤ x → x < 4 → τ'.1 28 x = 0) ∧ (∀ x, x < i → τ'.1 28 x = τ.1 28 x) ∧ pm_sm [28] [] τ τ' ∧ pm_uf [] τ τ'
  | 0, fuel + 1, i, τ, hi, hf => by
    refine ⟨τ, ?_, fun x h1 h2 => by omega, fun x _ => rfl, pm_sm.refl _ _ _, pm_uf.refl _ _⟩
    show S_X11_upland_40 _ τ (nI i) = _
    unfold S_X11_upland_40
    rw [if_pos (show (4 : Int32) ≤ nI i from nI_le (a := 4) (by omega) (by omega))]
  | k + 1, fuel + 1, i, τ, hi, hf => by
    obtain ⟨τ', p1, p2, p3, p4, p5⟩ := pm_h40 k fuel (i + 1) (sw_uI τ 28 i 0) (by omega) (by omega)
    refine ⟨τ', ?_, fun x h1 h2 => ?_, fun x hx => ?_, ((pm_sm.refl _ _ τ).I (by decide) (by decide) _ _).trans p4, ((pm_uf.refl _ τ).I (by decide) (by unfold pm_kp; omega) _).trans p5⟩
    · show S_X11_upland_40 _ τ (nI i) = _
      unfold S_X11_upland_40
      rw [if_neg (show ¬ (4 : Int32) ≤ nI i from nI_ge (b := 4) (by omega) (by omega)), if_pos (pz_inb (n := i) (N := 8) (by omega) (by omega)), nI_clamp (show i < 2 ^ 31 by omega), nI_1]
      exact p1
    · by_cases d : x = i
      · rw [d, p3 i (by omega), pz_Ie rfl rfl]
      · exact p2 x (by omega) h2
    · rw [p3 x (by omega), pz_Ik (by omega)]
def pm_UL : List Nat := 1 :: 3 :: 7 :: 8 :: 47 :: pm_UK
theorem pm_wlk : ∀ x ∈ pm_wl, ∀ k, pm_kp x.1 k := by
  have : ∀ x ∈ pm_wl, x.1 ≠ 0 ∧ x.1 ≠ 32 ∧ x.1 ≠ 71 ∧ x.1 ≠ 72 ∧ x.1 ≠ 73 ∧ x.1 ≠ 28 ∧ x.1 ≠ 29 ∧ x.1 ≠ 30 ∧ x.1 ≠ 31 ∧ x.1 ≠ 33 ∧ x.1 ≠ 34 ∧ x.1 ≠ 35 ∧ x.1 ≠ 36 := by decide
  intro x hx k
  have := this x hx
  unfold pm_kp
  omega
theorem RM.uf {τ τ' : sw_St} {l : Nat → Nat → Nat} {P : Nat → List Nat} {nm : g_N} {D : g_D} {U : List g_D} {F : List (Nat × Nat × Nat)} {T : List Nat} {sd : Nat} {rf : Nat → Int32} {ft : Int32 × Int32} {im : List Nat} {ft' : Int32 × Int32} (h : RM τ l P nm D U F T sd rf ft im) (m : pm_uf pm_UL τ τ') (h1 : τ'.1 0 1 = 0) (h7 : τ'.1 0 7 = ft'.1) (h8 : τ'.1 0 8 = ft'.2) : RM τ' l P nm D U F [] sd rf ft' im := by
  have r : ∀ o k, pm_kp o k → τ'.1 o k = τ.1 o k := fun o k ho => (m.1 o k ho).1
  have rl : ∀ o k, pm_kp o k → τ'.2.1 o k = τ.2.1 o k := fun o k ho => (m.1 o k ho).2
  have r37 : τ'.1 37 = τ.1 37 := by funext k; exact r 37 k (by unfold pm_kp; omega)
  have r46 : τ'.1 46 = τ.1 46 := by funext k; exact r 46 k (by unfold pm_kp; omega)
  have r44 : τ'.1 44 = τ.1 44 := by funext k; exact r 44 k (by unfold pm_kp; omega)
  have r74 : τ'.1 74 = τ.1 74 := by funext k; exact r 74 k (by unfold pm_kp; omega)
  have rk : ∀ k, k ∉ pm_UL → τ'.1 0 k = τ.1 0 k := fun k hk => m.2.1 k hk
  obtain ⟨⟨a1, a2, a3, a4, a5, a6, a7, a8⟩, ⟨b1, b2⟩, b3, b4, b5, b6, b7, b8, b9, b10, b11, b12⟩ := h
  refine ⟨⟨by rw [r 28 _ (by unfold pm_kp; omega)]; exact a1, by rw [r 28 _ (by unfold pm_kp; omega)]; exact a2, by rw [r 28 _ (by unfold pm_kp; omega)]; exact a3, by rw [r 28 _ (by unfold pm_kp; omega)]; exact a4, fun f hf => by rw [r 30 _ (by unfold pm_kp; omega)]; exact a5 f hf, fun f hf => by rw [r 31 _ (by unfold pm_kp; omega)]; exact a6 f hf, fun f hf => by rw [r 33 _ (by unfold pm_kp; omega)]; exact a7 f hf, fun i hi => ?_⟩, ⟨fun f hf => by rw [rl 29 _ (by unfold pm_kp; omega)]; exact b1 f hf, fun f hf => by rw [rl 29 _ (by unfold pm_kp; omega)]; exact b2 f hf⟩, b3.mvr r37, b4.mv (rk 68 (by decide)) (rk 67 (by decide)) r46, b5.mv (rk 63 (by decide)) r44, ⟨h1, fun i hi => (by cases hi)⟩, by rw [m.2.2]; exact b7, fun j hj => by rw [r 2 _ (by unfold pm_kp; omega)]; exact b8 j hj, ⟨h7, h8⟩, b10.mv (rk 105 (by decide)) r74, by rw [rk 52 (by decide), rk 58 (by decide)]; exact b11, fun x hx i hi => by rw [r _ _ (pm_wlk x hx i)]; exact b12 x hx i hi⟩
  rw [r 34 _ (by unfold pm_kp; omega), r 35 _ (by unfold pm_kp; omega)]
  rcases a8 i hi with y | ⟨a, y1, y2, y3, y4, y5⟩
  · exact Or.inl y
  · exact Or.inr ⟨a, y1, y2, y3, fun k hk => by rw [r 36 _ (by unfold pm_kp; omega)]; exact y4 k hk, y5⟩
theorem pm_upl {τ : sw_St} {l : Nat → Nat → Nat} {P : Nat → List Nat} {nm : g_N} {D : g_D} {U : List g_D} {F : List (Nat × Nat × Nat)} {T : List Nat} {sd : Nat} {rf : Nat → Int32} {ft : Int32 × Int32} {im : List Nat} (hG : RG l P nm D U F T sd im) (h : RM τ l P nm D U F T sd rf ft im) :
    (∀ q, pu_all (fun i => T.getD i 0) T.length 61 u_0 0 0 = .ok q → ∃ τ', F_X11_upland τ = some (nI q.2, τ') ∧ RM τ' q.1.1 q.1.2.1 q.1.2.2.1 (u_D q.1) [] [] [] sd rf (nI 0, -1) im ∧ pu_ok q.1) ∧
    (∀ e, pu_all (fun i => T.getD i 0) T.length 61 u_0 0 0 = .error e → ∃ τ', F_X11_upland τ = some (-1, τ') ∧ RM τ' l P nm D U F [] sd (g_rf rf 1) (nI e.1, nI e.2) im) := by
  have hfu := sw_fuel_ge
  have hT := hG.2.2.2.2.2.1
  have ht := g_tlt hT.2
  have hMT := h.2.2.2.2.2.1
  have hwd := h.2.2.2.2.2.2.2.2.2.2.2
  have m0 : pm_sm [] [1, 2, 3, 4, 5, 6, 46] τ (sw_uI (sw_uI (sw_uI (sw_uI (sw_uI (sw_uI (sw_uI τ 0 3 (τ.1 0 1)) 0 1 0) 0 2 0) 0 4 (-1)) 0 5 0) 0 6 (-1)) 0 46 0) := (((((((pm_sm.refl _ _ τ).K (by decide) _).K (by decide) _).K (by decide) _).K (by decide) _).K (by decide) _).K (by decide) _).K (by decide) _
  have v3 : (sw_uI (sw_uI (sw_uI (sw_uI (sw_uI (sw_uI (sw_uI τ 0 3 (τ.1 0 1)) 0 1 0) 0 2 0) 0 4 (-1)) 0 5 0) 0 6 (-1)) 0 46 0).1 0 3 = nI T.length := by
    repeat rw [pz_Ik (by decide)]
    rw [pz_Ie rfl rfl]
    exact hMT.1
  have v1 : (sw_uI (sw_uI (sw_uI (sw_uI (sw_uI (sw_uI (sw_uI τ 0 3 (τ.1 0 1)) 0 1 0) 0 2 0) 0 4 (-1)) 0 5 0) 0 6 (-1)) 0 46 0).1 0 1 = 0 := by
    repeat rw [pz_Ik (by decide)]
    exact pz_Ie rfl rfl
  have v2 : (sw_uI (sw_uI (sw_uI (sw_uI (sw_uI (sw_uI (sw_uI τ 0 3 (τ.1 0 1)) 0 1 0) 0 2 0) 0 4 (-1)) 0 5 0) 0 6 (-1)) 0 46 0).1 0 2 = nI 0 := by
    repeat rw [pz_Ik (by decide)]
    exact pz_Ie rfl rfl
  have v4 : (sw_uI (sw_uI (sw_uI (sw_uI (sw_uI (sw_uI (sw_uI τ 0 3 (τ.1 0 1)) 0 1 0) 0 2 0) 0 4 (-1)) 0 5 0) 0 6 (-1)) 0 46 0).1 0 4 = -1 := by
    repeat rw [pz_Ik (by decide)]
    exact pz_Ie rfl rfl
  have v5 : (sw_uI (sw_uI (sw_uI (sw_uI (sw_uI (sw_uI (sw_uI τ 0 3 (τ.1 0 1)) 0 1 0) 0 2 0) 0 4 (-1)) 0 5 0) 0 6 (-1)) 0 46 0).1 0 5 = 0 := by
    repeat rw [pz_Ik (by decide)]
    exact pz_Ie rfl rfl
  have v6 : (sw_uI (sw_uI (sw_uI (sw_uI (sw_uI (sw_uI (sw_uI τ 0 3 (τ.1 0 1)) 0 1 0) 0 2 0) 0 4 (-1)) 0 5 0) 0 6 (-1)) 0 46 0).1 0 6 = -1 := by
    repeat rw [pz_Ik (by decide)]
    exact pz_Ie rfl rfl
  have v46 : (sw_uI (sw_uI (sw_uI (sw_uI (sw_uI (sw_uI (sw_uI τ 0 3 (τ.1 0 1)) 0 1 0) 0 2 0) 0 4 (-1)) 0 5 0) 0 6 (-1)) 0 46 0).1 0 46 = nI 0 := pz_Ie rfl rfl
  have eF : F_X11_upland τ = L_X11_upland_40 sw_fuel (sw_uI (sw_uI (sw_uI (sw_uI (sw_uI (sw_uI (sw_uI τ 0 3 (τ.1 0 1)) 0 1 0) 0 2 0) 0 4 (-1)) 0 5 0) 0 6 (-1)) 0 46 0) 0 := rfl
  generalize hg0 : sw_uI (sw_uI (sw_uI (sw_uI (sw_uI (sw_uI (sw_uI τ 0 3 (τ.1 0 1)) 0 1 0) 0 2 0) 0 4 (-1)) 0 5 0) 0 6 (-1)) 0 46 0 = τ0 at m0 v1 v2 v3 v4 v5 v6 v46 eF
  obtain ⟨τ1, p1, p2, p3, p4, p5⟩ := pm_h40 4 sw_fuel 0 τ0 (by omega) (by omega)
  obtain ⟨τ2, q1, q2, q3, q4, q5⟩ := pm_h60 3 sw_fuel 0 τ1 (by omega) (by omega)
  have m3 : pm_sm [] [47] τ2 (sw_uI τ2 0 47 0) := (pm_sm.refl _ _ τ2).K (by decide) _
  have k0 : ∀ k, k ≠ 47 → (sw_uI τ2 0 47 0).1 0 k = τ0.1 0 k := fun k hk => by
    rw [pz_Ik hk, q4.2.1 k (by simp), p4.2.1 k (by simp)]
  have w28 : ∀ x, x < 4 → (sw_uI τ2 0 47 0).1 28 x = nI 0 := fun x hx => by
    rw [pz_Io (by decide), q4.r (by decide) (by decide), p2 x (by omega) hx]
    rfl
  have w34 : ∀ x, x < 3 → (sw_uI τ2 0 47 0).1 34 x = -1 := fun x hx => by
    rw [pz_Io (by decide), q2 x (by omega) hx]
  have w47 : (sw_uI τ2 0 47 0).1 0 47 = nI 0 := pz_Ie rfl rfl
  have U3 : pm_uf pm_UL τ (sw_uI τ2 0 47 0) := (((m0.uf (by decide) (by decide)).trans (p5.mono (by decide))).trans (q5.mono (by decide))).trans (m3.uf (by decide) (by decide))
  have eL : F_X11_upland τ = L_X11_upland_83 sw_fuel (sw_uI τ2 0 47 0) := by
    rw [eF, show L_X11_upland_40 sw_fuel τ0 0 = _ from p1]
    exact q1
  generalize hg3 : sw_uI τ2 0 47 0 = τ3 at k0 w28 w34 w47 U3 eL
  have hs3 : pm_ps τ3 (fun i => T.getD i 0) T.length 0 := by
    refine ⟨⟨fun i hi => ?_, by rw [k0 3 (by decide)]; exact v3, fun x hx i hi => ?_, by rw [k0 6 (by decide)]; exact v6⟩, ⟨0, Nat.le_refl _, Nat.zero_le _, by rw [k0 2 (by decide)]; exact v2⟩, by rw [k0 5 (by decide)]; exact v5, 0, by rw [k0 4 (by decide), v4]; rfl, by omega, ?_⟩
    · rw [(U3.1 1 i (by unfold pm_kp; omega)).1]
      exact hMT.2 i hi
    · rw [(U3.1 _ i (pm_wlk x hx i)).1]
      exact hwd x hx i hi
    · refine ⟨fun y => (by omega), fun y => ?_⟩
      have : tk_al (fun i => T.getD i 0) 0 = false := by
        unfold tk_al
        rw [decide_eq_false (by omega), Bool.false_and]
      rw [this] at y
      cases y
  have hM3 : pu_M τ3 u_0 0 := by
    refine ⟨⟨w28 0 (by omega), w28 1 (by omega), fun f hf => (by cases hf), fun f hf => (by cases hf)⟩, w28 2 (by omega), w28 3 (by omega), fun f hf => (by cases hf), fun j hj => ?_, fun j hj => ?_, fun k hk => (by cases hk), 0, by rw [k0 46 (by decide)]; exact v46, by omega, fun i hi => Or.inl ⟨w34 i hi, rfl, ?_⟩⟩
    · have hj : j < 3 * 0 := hj
      omega
    · have hj : j < 2 * 0 := hj
      omega
    · show Nat.testBit 0 i = false
      exact Nat.zero_testBit i
  obtain ⟨i1, i2⟩ := pm_uall ht hT.1 61 sw_fuel 0 0 u_0 τ3 u_0_ok hs3 hM3 w47 (by omega) (by omega) (by omega) (by omega)
  have v13 : τ3.1 0 1 = 0 := by rw [k0 1 (by decide)]; exact v1
  refine ⟨fun q hq => ?_, fun e he => ?_⟩
  · obtain ⟨τ4, r1, r2, r3, r4, r5, r6, r7⟩ := i1 q hq
    have hu : pu_ok q.1 := by
      have : ∀ (k c b : Nat) (u : g_U) (q : g_U × Nat), pu_ok u → b ≤ T.length → pu_all (fun i => T.getD i 0) T.length k u c b = .ok q → pu_ok q.1 := fun k => by
        induction k with
        | zero => exact fun c b u q _ _ h => (by cases h)
        | succ k ih =>
          intro c b u q hu hb h
          have eP : pu_all (fun i => T.getD i 0) T.length (k + 1) u c b = if tk_k (fun i => T.getD i 0) T.length b = 301 then .ok (u, c) else if c = 60 then .error (5, tk_s (fun i => T.getD i 0) T.length b) else ub (pu_st (fun i => T.getD i 0) T.length u b) (fun q => pu_exp (fun i => T.getD i 0) T.length 59 q.2 (fun b2 => pu_all (fun i => T.getD i 0) T.length k q.1 (c + 1) b2)) := rfl
          rw [eP] at h
          by_cases d1 : tk_k (fun i => T.getD i 0) T.length b = 301
          · rw [if_pos d1] at h
            rw [← Except.ok.inj h]
            exact hu
          · rw [if_neg d1] at h
            by_cases d2 : c = 60
            · rw [if_pos d2] at h
              cases h
            · rw [if_neg d2] at h
              obtain ⟨q1, e1, e2⟩ := ub_ok h
              obtain ⟨f1, f2, f3⟩ := pu_st_ok ht hb hu e1
              obtain ⟨-, e3⟩ := pu_exp_ok e2
              exact ih _ _ _ q f1 (tk_e_sp _ f3).2.1 e3
      exact this 61 0 0 u_0 q u_0_ok (by omega) hq
    have m5 : pm_sm [] [7, 8] τ4 (sw_uI (sw_uI τ4 0 7 (τ4.1 0 5)) 0 8 (τ4.1 0 6)) := ((pm_sm.refl _ _ τ4).K (by decide) _).K (by decide) _
    obtain ⟨τ6, s1, s2, s3, s4, s5, s6, s7⟩ := pm_stands hu (r4.mv m5 (by decide) (by decide) (Nat.le_refl _)) hT.1
    have U5 : pm_uf pm_UL τ (sw_uI (sw_uI τ4 0 7 (τ4.1 0 5)) 0 8 (τ4.1 0 6)) := (U3.trans (r7.mono (by decide))).trans (m5.uf (by decide) (by decide))
    have e7 : (sw_uI (sw_uI τ4 0 7 (τ4.1 0 5)) 0 8 (τ4.1 0 6)).1 0 7 = nI 0 := by
      rw [pz_Ik (by decide), pz_Ie rfl rfl, r2]
      rfl
    have e8 : (sw_uI (sw_uI τ4 0 7 (τ4.1 0 5)) 0 8 (τ4.1 0 6)).1 0 8 = -1 := by
      rw [pz_Ie rfl rfl, r3]
    have e47 : (sw_uI (sw_uI τ4 0 7 (τ4.1 0 5)) 0 8 (τ4.1 0 6)).1 0 47 = nI q.2 := by
      rw [m5.2.1 47 (by decide)]
      exact r5
    have e1 : (sw_uI (sw_uI τ4 0 7 (τ4.1 0 5)) 0 8 (τ4.1 0 6)).1 0 1 = 0 := by
      rw [m5.2.1 1 (by decide), r7.2.1 1 (by decide)]
      exact v13
    refine ⟨τ6, ?_, ?_, hu⟩
    · rw [eL, r1]
      unfold S_X11_upland_105 S_X11_upland_140
      rw [if_pos r2, s1]
      dsimp only [Option.bind_some]
      rw [s7.2.1 47 (by decide), e47]
    · generalize hg5 : sw_uI (sw_uI τ4 0 7 (τ4.1 0 5)) 0 8 (τ4.1 0 6) = τ5 at s7 U5 e7 e8 e47 e1
      have rk : ∀ k, k ∉ pm_UL → k ∉ [63, 67] → τ6.1 0 k = τ.1 0 k := fun k h1 h2 => by rw [s7.2.1 k h2, U5.2.1 k h1]
      have r : ∀ o, o ≠ 0 → o ∉ [28, 29, 30, 31, 33, 34, 35, 36, 37] → (∀ k, pm_kp o k) → ∀ k, τ6.1 o k = τ.1 o k := fun o h0 h1 h2 k => by rw [s7.r h0 h1, (U5.1 o k (h2 k)).1]
      obtain ⟨nw, y1, y2, y3, y4⟩ := h.2.2.2.1
      refine ⟨s2, s3, s4, ⟨nw, y1, by rw [rk 68 (by decide) (by decide)]; exact y2, s5, fun i E hi => (by cases hi)⟩, ⟨s6, fun i hi => (by cases hi)⟩, ⟨by rw [s7.2.1 1 (by decide), e1]; rfl, fun i hi => (by cases hi)⟩, by rw [s7.2.2, U5.2.2]; exact h.2.2.2.2.2.2.1, fun j hj => by rw [r 2 (by decide) (by decide) (fun k => by unfold pm_kp; omega)]; exact h.2.2.2.2.2.2.2.1 j hj, ⟨by rw [s7.2.1 7 (by decide)]; exact e7, by rw [s7.2.1 8 (by decide)]; exact e8⟩, h.2.2.2.2.2.2.2.2.2.1.mv (rk 105 (by decide) (by decide)) (by funext k; exact r 74 (by decide) (by decide) (fun k => by unfold pm_kp; omega) k), by rw [rk 52 (by decide) (by decide), rk 58 (by decide) (by decide)]; exact h.2.2.2.2.2.2.2.2.2.2.1, fun x hx i hi => ?_⟩
      have hx2 : ∀ x ∈ pm_wl, x.1 ≠ 0 ∧ x.1 ∉ [28, 29, 30, 31, 33, 34, 35, 36, 37] := by decide
      rw [r x.1 (hx2 x hx).1 (hx2 x hx).2 (pm_wlk x hx)]
      exact hwd x hx i hi
  · obtain ⟨τ4, r1, r2, r3, r4, r5⟩ := i2 e he
    have m5 : pm_sm [] [7, 8] τ4 (sw_uI (sw_uI τ4 0 7 (τ4.1 0 5)) 0 8 (τ4.1 0 6)) := ((pm_sm.refl _ _ τ4).K (by decide) _).K (by decide) _
    have U5 : pm_uf pm_UL τ (sw_uI (sw_uI τ4 0 7 (τ4.1 0 5)) 0 8 (τ4.1 0 6)) := (U3.trans (r3.mono (by decide))).trans (m5.uf (by decide) (by decide))
    have hR5 : RM (sw_uI (sw_uI τ4 0 7 (τ4.1 0 5)) 0 8 (τ4.1 0 6)) l P nm D U F [] sd rf (nI e.1, nI e.2) im := h.uf U5 (by rw [m5.2.1 1 (by decide), r3.2.1 1 (by decide)]; exact v13) (by rw [pz_Ik (by decide), pz_Ie rfl rfl]; exact r2.1) (by rw [pz_Ie rfl rfl]; exact r2.2)
    refine ⟨_, ?_, hR5.ref (j := 1) (by omega)⟩
    rw [eL, r1]
    unfold S_X11_upland_105 S_X11_upland_128
    rw [if_neg (pm_eq0 r2.1 r4 r5)]

/-! What is felt. -/
theorem RX.tape0 {σ : sw_St} {w : Nat} {l : Nat → Nat → Nat} {P : Nat → List Nat} {nm : g_N} {D : g_D} {U : List g_D} {F : List (Nat × Nat × Nat)} {T : List Nat} {sd : Nat} {rf : Nat → Int32} {ft : Int32 × Int32} {im : List Nat} (h : RX σ w l P nm D U F T sd rf ft im) : RX (sw_uI σ 0 1 0) w l P nm D U F [] sd rf ft im := by
  have ms : pz_sm [0] σ (sw_uI σ 0 1 0) := (pz_sm.refl _ σ).I (by decide) _ _
  exact h.gen ms (by decide) rfl (h.2.2.2.1.mv (fun i hi => (ms _ (by simp)).1)) (h.2.2.2.2.1.mv ms (by decide)) (h.2.2.2.2.2.1.mv (ms.r (by decide) 4) (ms 55 (by decide)).1) ⟨pz_Ie rfl rfl, fun i hi => by simp at hi⟩ (by rw [pz_Ik (by decide)]; exact h.2.2.2.2.2.2.2.1) (fun i hi => by rw [ms.r (by decide)]; exact h.2.2.2.2.2.2.2.2.1 i hi) (by rw [ms.r (by decide), ms.r (by decide)]; exact h.2.2.2.2.2.2.2.2.2.1) (h.2.2.2.2.2.2.2.2.2.2.1.mv (ms.r (by decide) 1) (ms 225 (by decide)).1) (by rw [ms.r (by decide)]; exact h.2.2.2.2.2.2.2.2.2.2.2.1) (h.2.2.2.2.2.2.2.2.2.2.2.2.mv (ms 54 (by decide)).2.2)
theorem RM.tape0 {τ : sw_St} {l : Nat → Nat → Nat} {P : Nat → List Nat} {nm : g_N} {D : g_D} {U : List g_D} {F : List (Nat × Nat × Nat)} {T : List Nat} {sd : Nat} {rf : Nat → Int32} {ft : Int32 × Int32} {im : List Nat} (h : RM τ l P nm D U F T sd rf ft im) : RM (sw_uI τ 0 1 0) l P nm D U F [] sd rf ft im := by
  have ms : pm_sm [] [1] τ (sw_uI τ 0 1 0) := (pm_sm.refl _ _ τ).K (by decide) _
  have r : ∀ o, o ≠ 0 → (sw_uI τ 0 1 0).1 o = τ.1 o := fun o h0 => (ms.1 o h0 (by simp)).1
  have rk : ∀ k, k ≠ 1 → (sw_uI τ 0 1 0).1 0 k = τ.1 0 k := fun k hk => ms.2.1 k (by simpa using hk)
  exact h.gen (h.1.mv ms (by unfold pm_LS; decide)) (ms.1 29 (by decide) (by decide)).2 (h.2.2.1.mvr (r 37 (by decide))) (h.2.2.2.1.mv (rk 68 (by decide)) (rk 67 (by decide)) (r 46 (by decide))) (h.2.2.2.2.1.mv (rk 63 (by decide)) (r 44 (by decide))) ⟨pz_Ie rfl rfl, fun i hi => by simp at hi⟩ (by rw [ms.2.2]; exact h.2.2.2.2.2.2.1) (fun j hj => by rw [r 2 (by decide)]; exact h.2.2.2.2.2.2.2.1 j hj) (by rw [rk 7 (by decide), rk 8 (by decide)]; exact h.2.2.2.2.2.2.2.2.1) (h.2.2.2.2.2.2.2.2.2.1.mv (rk 105 (by decide)) (r 74 (by decide))) (by rw [rk 52 (by decide), rk 58 (by decide)]; exact h.2.2.2.2.2.2.2.2.2.2.1) (h.2.2.2.2.2.2.2.2.2.2.2.mv ms (by decide))
theorem RG.tape0 {l : Nat → Nat → Nat} {P : Nat → List Nat} {nm : g_N} {D : g_D} {U : List g_D} {F : List (Nat × Nat × Nat)} {T : List Nat} {sd : Nat} {im : List Nat} (h : RG l P nm D U F T sd im) : RG l P nm D U F [] sd im :=
  ⟨h.1, h.2.1, h.2.2.1, h.2.2.2.1, h.2.2.2.2.1, ⟨by simp, fun b hb => by simp at hb⟩, h.2.2.2.2.2.2⟩
def g_fr (T : List Nat) (ns k : Nat) : Bool := decide (T.getD k 0 ≤ 30) && (decide (T.getD (k + 1) 0 < ns) && decide (T.getD (k + 2) 0 < 64))
def g_fo (T : List Nat) (ns : Nat) : Nat → Nat → Bool
  | 0, _ => true
  | n + 1, k => g_fr T ns k && g_fo T ns n (k + 3)
theorem g_fo_sp {T : List Nat} {ns : Nat} : ∀ n k, g_fo T ns n k = true → ∀ i, i < n → g_fr T ns (k + 3 * i) = true
  | 0, _, _, i, hi => by omega
  | n + 1, k, h, i, hi => by
    unfold g_fo at h
    rw [Bool.and_eq_true] at h
    cases i with
    | zero => exact h.1
    | succ i =>
      have := g_fo_sp n (k + 3) h.2 i (by omega)
      rwa [show k + 3 + 3 * i = k + 3 * (i + 1) by omega] at this
theorem g_getlt {T : List Nat} (h : ∀ b ∈ T, b < 256) (k : Nat) : T.getD k 0 < 256 := by
  rw [List.getD_eq_getElem?_getD]
  by_cases hk : k < T.length
  · rw [List.getElem?_eq_getElem hk]
    exact h _ (List.getElem_mem hk)
  · rw [List.getElem?_eq_none (by omega)]
    simp
theorem px_f95 {T : List Nat} {N rows : Nat} (hN : N ≤ 48) (h256 : ∀ b ∈ T, b < 256) : ∀ (n fuel k : Nat) (σ : sw_St), (∀ i, i < N → σ.1 1 i = sB (T.getD i 0)) → k + n = N → n < fuel → ∃ σ', L_X1_takeFelt_95 fuel σ 1 (nI N) (nI rows) (nI k) = some (1, σ') ∧ (∀ i, k ≤ i → i < N → σ'.1 55 i = nI (T.getD i 0)) ∧ (∀ i, i < k → σ'.1 55 i = σ.1 55 i) ∧ σ'.1 54 4 = nI rows ∧ pz_sm [54, 55] σ σ' ∧ σ'.2 = σ.2
  | 0, fuel + 1, k, σ, hb, hk, hf => by
    refine ⟨sw_uI σ 54 4 (nI rows), ?_, fun i h1 h2 => by omega, fun i hi => by rw [pz_Io (by decide)], pz_Ie rfl rfl, (pz_sm.refl _ σ).I (by decide) _ _, rfl⟩
    show S_X1_takeFelt_95 _ σ 1 (nI N) (nI rows) (nI k) = _
    unfold S_X1_takeFelt_95
    rw [if_pos (nI_le (by omega) (by omega))]
  | n + 1, fuel + 1, k, σ, hb, hk, hf => by
    obtain ⟨σ', p1, p2, p3, p4, p5, p6⟩ := px_f95 (T := T) (rows := rows) hN h256 n fuel (k + 1) (sw_uI σ 55 k (nI (T.getD k 0))) (fun i hi => by rw [pz_Io (by decide)]; exact hb i hi) (by omega) (by omega)
    refine ⟨σ', ?_, fun i h1 h2 => ?_, fun i hi => by rw [p3 i (by omega), pz_Ik (by omega)], p4, ((pz_sm.refl _ σ).I (by decide) _ _).trans p5, p6⟩
    · show S_X1_takeFelt_95 _ σ 1 (nI N) (nI rows) (nI k) = _
      unfold S_X1_takeFelt_95
      rw [if_neg (nI_ge (by omega) (by omega)), if_pos (by decide +kernel), show sw_ln sw_gX 1 = 1600 from by decide +kernel, if_pos (pz_inb (by omega) (by omega)), if_pos (pz_inb (by omega) (by omega)), nI_clamp (by omega), hb k (by omega), sB_255 (g_getlt h256 k), nI_1]
      exact p1
    · by_cases e : i = k
      · rw [e, p3 k (by omega), pz_Ie rfl rfl]
      · exact p2 i (by omega) h2
theorem px_f27 {σ : sw_St} {w N rows : Nat} {T : List Nat} {l : Nat → Nat → Nat} {P : Nat → List Nat} (hl : px_ld σ w l P) (h6 : l 0 2 ≤ 6) (hN : N ≤ 48) (h256 : ∀ b ∈ T, b < 256) (hb : ∀ i, i < N → σ.1 1 i = sB (T.getD i 0)) : ∀ (n fuel k : Nat), k + 3 * n = N → n < fuel → L_X1_takeFelt_27 fuel σ 1 (nI N) (nI rows) (nI k) = if g_fo T (l 0 2) n k = true then L_X1_takeFelt_95 sw_fuel σ 1 (nI N) (nI rows) 0 else some (0, σ)
  | 0, fuel + 1, k, hk, hf => by
    show S_X1_takeFelt_27 _ σ 1 (nI N) (nI rows) (nI k) = _
    unfold S_X1_takeFelt_27
    rw [if_pos (nI_le (by omega) (by omega))]
    rfl
  | n + 1, fuel + 1, k, hk, hf => by
    have a0 := g_getlt h256 k
    have a1 := g_getlt h256 (k + 1)
    have a2 := g_getlt h256 (k + 2)
    have ih := px_f27 (rows := rows) hl h6 hN h256 hb n fuel (k + 3) (by omega) (by omega)
    have i1 : nI k + 1 = nI (k + 1) := nI_1 k
    have i2 : nI k + 2 = nI (k + 2) := by rw [show (2 : Int32) = nI 2 from rfl, nI_add]
    have i3 : nI k + 3 = nI (k + 3) := by rw [show (3 : Int32) = nI 3 from rfl, nI_add]
    have hA : sw_isA sw_gX 1 1 = true := by decide +kernel
    have hL : sw_ln sw_gX 1 = 1600 := by decide +kernel
    show S_X1_takeFelt_27 _ σ 1 (nI N) (nI rows) (nI k) = _
    unfold S_X1_takeFelt_27 S_X1_takeFelt_84 g_fo g_fr
    rw [if_neg (nI_ge (by omega) (by omega)), if_pos hA, hL, if_pos (pz_inb (by omega) (by omega)), nI_clamp (by omega), hb k (by omega), sB_255 a0]
    by_cases c0 : T.getD k 0 ≤ 30
    · rw [if_neg (show ¬ (30 : Int32) < nI (T.getD k 0) from nI_nlt (a := 30) c0 (by omega)), if_pos hA, i1, if_pos (pz_inb (by omega) (by omega)), hl.2.1]
      dsimp only [Option.bind]
      rw [if_pos (ld_O hl.1), hl.2.2.2.2.1, nI_clamp (by omega), hb (k + 1) (by omega), sB_255 a1]
      by_cases c1 : T.getD (k + 1) 0 < l 0 2
      · rw [if_neg (nI_ge c1 (by omega)), if_pos hA, i2, if_pos (pz_inb (by omega) (by omega)), nI_clamp (by omega), hb (k + 2) (by omega), sB_255 a2]
        by_cases c2 : T.getD (k + 2) 0 < 64
        · rw [if_pos (show nI (T.getD (k + 2) 0) < (64 : Int32) from nI_lt (b := 64) c2 (by omega)), i3]
          simp only [c0, c1, c2, decide_true, Bool.true_and]
          exact ih
        · rw [if_neg (show ¬ nI (T.getD (k + 2) 0) < (64 : Int32) from nI_nlt (b := 64) (by omega) (by omega)), if_neg (by simp only [decide_eq_false c2, Bool.and_false, Bool.false_and, Bool.false_eq_true, not_false_eq_true])]
      · rw [if_pos (nI_le (by omega) (by omega)), if_neg (by simp only [decide_eq_false c1, Bool.and_false, Bool.false_and, Bool.false_eq_true, not_false_eq_true])]
    · rw [if_pos (show (30 : Int32) < nI (T.getD k 0) from nI_lt (a := 30) (by omega) (by omega)), if_neg (by simp only [decide_eq_false c0, Bool.and_false, Bool.false_and, Bool.false_eq_true, not_false_eq_true])]
theorem pm_f108 {T : List Nat} {N : Nat} (hN : N ≤ 48) : ∀ (n fuel k : Nat) (τ : sw_St), (∀ i, i < N → τ.1 1 i = nI (T.getD i 0)) → k + n = N → n < fuel → ∃ τ', L_X11_feel_108 fuel τ (nI N) (nI k) = some (nI (N / 3), τ') ∧ (∀ i, k ≤ i → i < N → τ'.1 44 i = nI (T.getD i 0)) ∧ (∀ i, i < k → τ'.1 44 i = τ.1 44 i) ∧ τ'.1 0 63 = nI (N / 3) ∧ pm_sm [44] [63] τ τ'
  | 0, fuel + 1, k, τ, hb, hk, hf => by
    have e : nI N / 3 = nI (N / 3) := pk_div (d := 3) (by omega) (by omega) (by omega)
    refine ⟨sw_uI τ 0 63 (nI (N / 3)), ?_, fun i h1 h2 => by omega, fun i hi => by rw [pz_Io (by decide)], pz_Ie rfl rfl, (pm_sm.refl _ _ τ).K (by decide) _⟩
    show S_X11_feel_108 _ τ (nI N) (nI k) = _
    unfold S_X11_feel_108
    rw [if_pos (nI_le (by omega) (by omega)), e]
  | n + 1, fuel + 1, k, τ, hb, hk, hf => by
    obtain ⟨τ', p1, p2, p3, p4, p5⟩ := pm_f108 (T := T) hN n fuel (k + 1) (sw_uI τ 44 k (nI (T.getD k 0))) (fun i hi => by rw [pz_Io (by decide)]; exact hb i hi) (by omega) (by omega)
    refine ⟨τ', ?_, fun i h1 h2 => ?_, fun i hi => by rw [p3 i (by omega), pz_Ik (by omega)], p4, ((pm_sm.refl _ _ τ).I (by decide) (by decide) _ _).trans p5⟩
    · show S_X11_feel_108 _ τ (nI N) (nI k) = _
      unfold S_X11_feel_108
      rw [if_neg (nI_ge (by omega) (by omega)), if_pos (pz_inb (by omega) (by omega)), if_pos (pz_inb (by omega) (by omega)), nI_clamp (by omega), hb k (by omega), nI_1]
      exact p1
    · by_cases e : i = k
      · rw [e, p3 k (by omega), pz_Ie rfl rfl]
      · exact p2 i (by omega) h2
theorem pm_f36 {τ : sw_St} {N : Nat} {T : List Nat} {l : Nat → Nat → Nat} {P : Nat → List Nat} (hg : g_ld l P) (hl : pm_ld τ l P) (hN : N ≤ 48) (h256 : ∀ b ∈ T, b < 256) (hb : ∀ i, i < N → τ.1 1 i = nI (T.getD i 0)) : ∀ (n fuel k : Nat), k + 3 * n = N → n + 1 < fuel → L_X11_feel_36 fuel τ (nI N) 1 (nI k) = S_X11_feel_96 τ (nI N) (if g_fo T (l 0 2) n k = true then 1 else 0)
  | 0, fuel + 1, k, hk, hf => by
    show S_X11_feel_36 _ τ (nI N) 1 (nI k) = _
    unfold S_X11_feel_36
    rw [if_pos (nI_le (by omega) (by omega))]
    rfl
  | n + 1, fuel + 1, k, hk, hf => by
    have a0 := g_getlt h256 k
    have a1 := g_getlt h256 (k + 1)
    have a2 := g_getlt h256 (k + 2)
    have h6 := hg.2.2.1
    have ih := pm_f36 hg hl hN h256 hb n fuel (k + 3) (by omega) (by omega)
    have i1 : nI k + 1 = nI (k + 1) := nI_1 k
    have i2 : nI k + 2 = nI (k + 2) := by rw [show (2 : Int32) = nI 2 from rfl, nI_add]
    have i3 : nI k + 3 = nI (k + 3) := by rw [show (3 : Int32) = nI 3 from rfl, nI_add]
    have stop : ∀ k', L_X11_feel_36 fuel τ (nI N) 0 (nI k') = S_X11_feel_96 τ (nI N) 0 := fun k' => by
      cases fuel with
      | zero => omega
      | succ fuel =>
        show S_X11_feel_36 _ τ (nI N) 0 (nI k') = _
        unfold S_X11_feel_36
        split
        · rfl
        · rfl
    show S_X11_feel_36 _ τ (nI N) 1 (nI k) = _
    unfold S_X11_feel_36 S_X11_feel_88 S_X11_feel_89 g_fo g_fr
    rw [if_neg (nI_ge (by omega) (by omega)), if_neg pz_10, if_pos (pz_inb (by omega) (by omega)), nI_clamp (by omega), hb k (by omega), i3]
    by_cases c0 : T.getD k 0 ≤ 30
    · rw [if_neg (show ¬ (30 : Int32) < nI (T.getD k 0) from nI_nlt (a := 30) c0 (by omega)), i1, if_pos (pz_inb (by omega) (by omega)), nI_clamp (by omega), hb (k + 1) (by omega), pm_isSheep hg hl]
      dsimp only [Option.bind]
      by_cases c1 : T.getD (k + 1) 0 < l 0 2
      · rw [if_pos (g_in_nI c1 (by omega)), if_neg pz_10, i2, if_pos (pz_inb (by omega) (by omega)), nI_clamp (by omega), hb (k + 2) (by omega)]
        by_cases c2 : T.getD (k + 2) 0 < 64
        · rw [if_neg (show ¬ (64 : Int32) ≤ nI (T.getD (k + 2) 0) from nI_ge (b := 64) c2 (by omega))]
          simp only [c0, c1, c2, decide_true, Bool.true_and]
          exact ih
        · rw [if_pos (show (64 : Int32) ≤ nI (T.getD (k + 2) 0) from nI_le (a := 64) (by omega) (by omega)), if_neg (by simp only [decide_eq_false c2, Bool.and_false, Bool.false_and, Bool.false_eq_true, not_false_eq_true])]
          exact stop _
      · rw [if_neg (show ¬ g_in (nI (T.getD (k + 1) 0)) (l 0 2) = true from fun z => by
          have := of_decide_eq_true z
          rw [nI_toInt (by omega)] at this
          omega), if_pos rfl, if_neg (by simp only [decide_eq_false c1, Bool.and_false, Bool.false_and, Bool.false_eq_true, not_false_eq_true])]
        exact stop _
    · rw [if_pos (show (30 : Int32) < nI (T.getD k 0) from nI_lt (a := 30) (by omega) (by omega)), if_neg (by simp only [decide_eq_false c0, Bool.and_false, Bool.false_and, Bool.false_eq_true, not_false_eq_true])]
      exact stop _
def g_fl (T : List Nat) (n : Nat) : List (Nat × Nat × Nat) := (List.range n).map (fun i => (T.getD (3 * i) 0, T.getD (3 * i + 1) 0, T.getD (3 * i + 2) 0))
theorem g_fl_at {T : List Nat} {n i : Nat} (h : i < n) : (g_fl T n).getD i (0, 0, 0) = (T.getD (3 * i) 0, T.getD (3 * i + 1) 0, T.getD (3 * i + 2) 0) := by
  unfold g_fl
  rw [List.getD_eq_getElem?_getD, List.getElem?_map, List.getElem?_range h]
  rfl
theorem op_22 : ll_22 RR := by
  intro x m hR
  obtain ⟨w, l, P, nm, D, U, F, T, sd, rf, ft, im, hG, hX, hM⟩ := hR
  have hR : RR x m := ⟨w, l, P, nm, D, U, F, T, sd, rf, ft, im, hG, hX, hM⟩
  have h6 := hG.1.2.2.1
  have ht := hG.2.2.2.2.2.1.1
  have h256 := hG.2.2.2.2.2.1.2
  obtain ⟨x1, x2⟩ := hX.2.2.2.2.2.2.1
  obtain ⟨m1, m2⟩ := hM.2.2.2.2.2.1
  have hX0 := hX.tape0
  have hM0 := hM.tape0
  have hR0 : RR (sw_uI x 0 1 0) (sw_uI m 0 1 0) := ⟨w, l, P, nm, D, U, F, [], sd, rf, ft, im, hG.tape0, hX0, hM0⟩
  have hno := hR0.ref (j := 1) (by omega)
  have bx : ∀ i, i < T.length → (sw_uI x 0 1 0).1 1 i = sB (T.getD i 0) := fun i hi => by rw [pz_Io (by decide)]; exact x2 i hi
  have bm : ∀ i, i < T.length → (sw_uI m 0 1 0).1 1 i = nI (T.getD i 0) := fun i hi => by rw [pz_Io (by decide)]; exact m2 i hi
  have rx : (F_X10_refuse (sw_uI x 0 1 0) 1).bind (fun q3 => some (q3.1, q3.2)) = some (-1, sw_uI (sw_uI x 0 1 0) 226 1 ((sw_uI x 0 1 0).1 226 1 + 1)) := by
    rw [show (1 : Int32) = nI 1 from rfl, px_refuse (by omega)]
    rfl
  have rm : S_X11_feel_96 (sw_uI m 0 1 0) (nI T.length) 0 = some (-1, sw_uI (sw_uI m 0 1 0) 2 1 ((sw_uI m 0 1 0).1 2 1 + 1)) := by
    unfold S_X11_feel_96
    rw [if_pos rfl, show (1 : Int32) = nI 1 from rfl, pm_refuses (by omega)]
    rfl
  have rm36 : L_X11_feel_36 sw_fuel (sw_uI m 0 1 0) (nI T.length) 0 0 = some (-1, sw_uI (sw_uI m 0 1 0) 2 1 ((sw_uI m 0 1 0).1 2 1 + 1)) := by
    obtain ⟨f, hf⟩ : ∃ f, sw_fuel = f + 1 := ⟨sw_fuel - 1, by have := sw_fuel_ge; omega⟩
    rw [hf]
    show S_X11_feel_36 _ (sw_uI m 0 1 0) (nI T.length) 0 0 = _
    unfold S_X11_feel_36
    rw [rm]
    split
    · rfl
    · rfl
  have d3 : nI T.length / 3 = nI (T.length / 3) := pk_div (d := 3) (by omega) (by omega) (by omega)
  have r3 : nI T.length - nI T.length / 3 * 3 = nI (T.length % 3) := pk_rem (d := 3) (by omega) (by omega) (by omega)
  -- refused
  have bad : F_X1_takeFelt (sw_uI x 0 1 0) 1 (nI T.length) = some (0, sw_uI x 0 1 0) → F_X11_feel m = some (-1, sw_uI (sw_uI m 0 1 0) 2 1 ((sw_uI m 0 1 0).1 2 1 + 1)) → ∃ v x2 m2, F_X10_feel x = some (v, x2) ∧ F_X11_feel m = some (v, m2) ∧ RR x2 m2 := fun e1 e2 => by
    refine ⟨-1, _, _, ?_, e2, hno⟩
    unfold F_X10_feel F_X10_takeTape S_X10_feel_35
    dsimp only [Option.bind]
    rw [x1, e1]
    dsimp only
    rw [if_pos rfl]
    exact rx
  unfold ll_22 at *
  by_cases h0 : T.length = 0
  · refine bad ?_ ?_
    · unfold F_X1_takeFelt S_X1_takeFelt_22
      rw [d3, h0, if_pos (by decide)]
    · unfold F_X11_feel S_X11_feel_32 S_X11_feel_33
      rw [m1, if_pos (show nI T.length ≤ (0 : Int32) from by rw [h0]; decide)]
      exact rm36
  have eM : F_X11_feel m = S_X11_feel_14 (sw_uI m 0 1 0) (nI T.length) := by
    unfold F_X11_feel
    rw [m1, if_neg (nI_nle (by omega) (by omega))]
  by_cases h1 : T.length % 3 = 0
  · by_cases h2 : T.length / 3 ≤ 16
    · have hgo : 3 * (T.length / 3) = T.length := by omega
      have eX : F_X1_takeFelt (sw_uI x 0 1 0) 1 (nI T.length) = L_X1_takeFelt_27 sw_fuel (sw_uI x 0 1 0) 1 (nI T.length) (nI (T.length / 3)) (nI 0) := by
        unfold F_X1_takeFelt
        rw [d3, if_neg (show ¬ nI (T.length / 3) < (1 : Int32) from nI_nlt (b := 1) (by omega) (by omega)), if_neg (show ¬ (16 : Int32) < nI (T.length / 3) from nI_nlt (a := 16) h2 (by omega)), if_pos (show nI (T.length / 3) * (3 : Int32) = nI T.length from by rw [show (3 : Int32) = nI 3 from rfl, pk_mul]; congr 1; omega)]
        rfl
      rw [px_f27 (T := T) hX0.1 h6 (by omega) h256 bx (T.length / 3) sw_fuel 0 (by omega) (by have := sw_fuel_ge; omega)] at eX
      have eM2 : F_X11_feel m = S_X11_feel_96 (sw_uI m 0 1 0) (nI T.length) (if g_fo T (l 0 2) (T.length / 3) 0 = true then 1 else 0) := by
        rw [eM]
        unfold S_X11_feel_14 S_X11_feel_33
        rw [r3, h1, if_pos (by rfl), d3, if_neg (show ¬ (16 : Int32) < nI (T.length / 3) from nI_nlt (a := 16) h2 (by omega))]
        exact pm_f36 hG.1 hM0.1 (by omega) h256 bm (T.length / 3) sw_fuel 0 (by omega) (by have := sw_fuel_ge; omega)
      by_cases h3 : g_fo T (l 0 2) (T.length / 3) 0 = true
      · rw [if_pos h3] at eX eM2
        obtain ⟨σ1, p1, p2, p3, p4, p5, p6⟩ := px_f95 (T := T) (N := T.length) (rows := T.length / 3) (by omega) h256 T.length sw_fuel 0 (sw_uI x 0 1 0) bx (by omega) (by have := sw_fuel_ge; omega)
        obtain ⟨τ1, q1, q2, q3, q4, q5⟩ := pm_f108 (T := T) (N := T.length) (by omega) T.length sw_fuel 0 (sw_uI m 0 1 0) bm (by omega) (by have := sw_fuel_ge; omega)
        have hlen : (g_fl T (T.length / 3)).length = T.length / 3 := by unfold g_fl; simp
        have hfl : ∀ y ∈ g_fl T (T.length / 3), y.1 ≤ 30 ∧ y.2.1 < l 0 2 ∧ y.2.2 < 64 := fun y hy => by
          unfold g_fl at hy
          obtain ⟨i, hi, rfl⟩ := List.mem_map.mp hy
          have := g_fo_sp _ _ h3 i (List.mem_range.mp hi)
          unfold g_fr at this
          rw [Nat.zero_add, Bool.and_eq_true, Bool.and_eq_true] at this
          exact ⟨of_decide_eq_true this.1, of_decide_eq_true this.2.1, of_decide_eq_true this.2.2⟩
        refine ⟨nI (T.length / 3), σ1, τ1, ?_, ?_, w, l, P, nm, D, U, g_fl T (T.length / 3), [], sd, rf, ft, im, ⟨hG.1, hG.2.1, hG.2.2.1, hG.2.2.2.1, ⟨by omega, hfl⟩, ⟨by simp, fun b hb => by simp at hb⟩, hG.2.2.2.2.2.2⟩, ?_, ?_⟩
        · unfold F_X10_feel F_X10_takeTape S_X10_feel_35
          dsimp only [Option.bind]
          rw [x1, eX, show L_X1_takeFelt_95 sw_fuel (sw_uI x 0 1 0) 1 (nI T.length) (nI (T.length / 3)) 0 = some (1, σ1) from p1]
          dsimp only
          rw [if_neg (by decide), p4]
        · rw [eM2]
          unfold S_X11_feel_96
          rw [if_neg pz_10]
          exact q1
        · have r22 : ∀ o, σ1.2.2 o = (sw_uI x 0 1 0).2.2 o := fun o => by rw [p6]
          refine hX0.gen p5 (by decide) (by rw [r22]) (hX0.2.2.2.1.mv (fun i hi => (p5 _ (by simp; omega)).1)) (hX0.2.2.2.2.1.mv p5 (by decide)) ⟨by rw [hlen]; exact p4, fun i hi => ?_⟩ (hX0.2.2.2.2.2.2.1.mv (p5.r (by decide) 1) (p5 1 (by decide)).1) (by rw [p5.r (by decide)]; exact hX0.2.2.2.2.2.2.2.1) (fun i hi => by rw [p5.r (by decide)]; exact hX0.2.2.2.2.2.2.2.2.1 i hi) (by rw [p5.r (by decide), p5.r (by decide)]; exact hX0.2.2.2.2.2.2.2.2.2.1) (hX0.2.2.2.2.2.2.2.2.2.2.1.mv (p5.r (by decide) 1) (p5 225 (by decide)).1) (by rw [p5.r (by decide)]; exact hX0.2.2.2.2.2.2.2.2.2.2.2.1) (hX0.2.2.2.2.2.2.2.2.2.2.2.2.mv (r22 54))
          rw [hlen] at hi
          rw [g_fl_at hi]
          exact ⟨p2 _ (by omega) (by omega), p2 _ (by omega) (by omega), p2 _ (by omega) (by omega)⟩
        · have r : ∀ o, o ≠ 0 → o ∉ [44] → τ1.1 o = (sw_uI m 0 1 0).1 o := fun o h0 ho => (q5.1 o h0 ho).1
          have rk : ∀ k, k ∉ [63] → τ1.1 0 k = (sw_uI m 0 1 0).1 0 k := fun k hk => q5.2.1 k hk
          refine hM0.gen (hM0.1.mv q5 (by unfold pm_LS; decide)) (q5.1 29 (by decide) (by decide)).2 (hM0.2.2.1.mvr (r 37 (by decide) (by decide))) (hM0.2.2.2.1.mv (rk 68 (by decide)) (rk 67 (by decide)) (r 46 (by decide) (by decide))) ⟨by rw [hlen]; exact q4, fun i hi => ?_⟩ (hM0.2.2.2.2.2.1.mv (rk 1 (by decide)) (r 1 (by decide) (by decide))) (by rw [q5.2.2]; exact hM0.2.2.2.2.2.2.1) (fun j hj => by rw [r 2 (by decide) (by decide)]; exact hM0.2.2.2.2.2.2.2.1 j hj) (by rw [rk 7 (by decide), rk 8 (by decide)]; exact hM0.2.2.2.2.2.2.2.2.1) (hM0.2.2.2.2.2.2.2.2.2.1.mv (rk 105 (by decide)) (r 74 (by decide) (by decide))) (by rw [rk 52 (by decide), rk 58 (by decide)]; exact hM0.2.2.2.2.2.2.2.2.2.2.1) (hM0.2.2.2.2.2.2.2.2.2.2.2.mv q5 (by decide))
          rw [hlen] at hi
          rw [g_fl_at hi]
          exact ⟨q2 _ (by omega) (by omega), q2 _ (by omega) (by omega), q2 _ (by omega) (by omega)⟩
      · rw [if_neg h3] at eX eM2
        exact bad eX (by rw [eM2]; exact rm)
    · refine bad ?_ ?_
      · unfold F_X1_takeFelt S_X1_takeFelt_22
        rw [d3, if_neg (show ¬ nI (T.length / 3) < (1 : Int32) from nI_nlt (b := 1) (by omega) (by omega)), if_pos (show (16 : Int32) < nI (T.length / 3) from nI_lt (a := 16) (by omega) (by omega))]
      · rw [eM]
        unfold S_X11_feel_14 S_X11_feel_32 S_X11_feel_33
        rw [r3, h1, if_pos (by rfl), d3, if_pos (show (16 : Int32) < nI (T.length / 3) from nI_lt (a := 16) (by omega) (by omega))]
        exact rm36
  · refine bad ?_ ?_
    · unfold F_X1_takeFelt S_X1_takeFelt_22
      rw [d3, if_neg (show ¬ nI (T.length / 3) * (3 : Int32) = nI T.length from by rw [show (3 : Int32) = nI 3 from rfl, pk_mul, nI_eq (by omega) (by omega)]; omega)]
      split
      · rfl
      · split <;> rfl
    · rw [eM]
      unfold S_X11_feel_14 S_X11_feel_32 S_X11_feel_33
      rw [r3, if_neg (nI_ne0 (by omega) (by omega))]
      exact rm36

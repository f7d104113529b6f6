/-! The fewest gaps to be changed: the reference. -/
theorem pm_gl {s fld n : Nat} {m τ1 : sw_St} {l : Nat → Nat → Nat} {P : Nat → List Nat} {nm : g_N} {D : g_D} {U : List g_D} {F : List (Nat × Nat × Nat)} {T : List Nat} {sd : Nat} {rf : Nat → Int32} {ft : Int32 × Int32} {im : List Nat} (hG : RG l P nm D U F T sd im) (hM : RM m l P nm D U F T sd rf ft im) (hs : s < l 0 2) (hfl : fld < l 0 0) (hn : n ≤ 20) (hdn : D.1 0 + n ≤ 999) (r2 : ∀ j, j < 84 → τ1.1 38 j = m.1 37 j) (r3 : pm_sm [38] [58] m τ1) (r4 : τ1.1 0 58 = 1) : ∀ (k fuel X : Nat) (b : Option Nat) (τ : sw_St), pm_sm [37, 73] [48, 54, 55, 56, 59, 101] τ1 τ → τ.1 37 = τ1.1 37 → g_bt none b (fun Y => Y < X ∧ g_sol l P (D.1 2) (l 3 (2 * s + 1)) s fld 0 0 n (D.1 0) (D.2.1 s) Y) → X + k = 2 ^ l 0 1 → k < fuel →
    ∃ τ' b', L_X11_gaps_40 fuel τ (nI s) (nI fld) (nI n) (oI b) (nI X) = some (oI b', τ') ∧ RM τ' l P nm D U F T sd rf ft im ∧ g_bt none b' (g_sol l P (D.1 2) (l 3 (2 * s + 1)) s fld 0 0 n (D.1 0) (D.2.1 s))
  | 0, fuel + 1, X, b, τ, h, h37, hb, hX, hf => by
    have hg := hG.1
    have g1 := hg.2.1
    have h2p : 2 ^ l 0 1 ≤ 2 ^ 10 := Nat.pow_le_pow_right (by omega) g1
    have tv := (hM.tv hg r3 r4).eq h h37
    obtain ⟨τ3, u1, u2, u3, u4, u5, u6⟩ := pm_back τ
    refine ⟨τ3, b, ?_, hM.back r2 r3 h (by decide) (by decide) (fun i _ => by rw [h37]) u2 u3 u4 u5 u6, g_bt_eq hb (fun Y => ⟨fun y => y.2, fun y => ⟨by have := y.1.1; omega, y⟩⟩)⟩
    show S_X11_gaps_40 _ τ (nI s) (nI fld) (nI n) (oI b) (nI X) = _
    unfold S_X11_gaps_40 F_X11_gapMany
    dsimp only [Option.bind_some]
    rw [tv.1.2.1, pz_shl (by omega), if_pos (nI_le (by omega) (by omega)), u1]
    rfl
  | k + 1, fuel + 1, X, b, τ, h, h37, hb, hX, hf => by
    have hg := hG.1
    have hdk := hG.2.2.1
    have h8 := hg.1
    have g1 := hg.2.1
    have g6 := hg.2.2.1
    have hfu := sw_fuel_ge
    have h2p : 2 ^ l 0 1 ≤ 2 ^ 10 := Nat.pow_le_pow_right (by omega) g1
    obtain ⟨hr, hf0⟩ := hdk.2.2.2.1 s hs
    have tv := (hM.tv hg r3 r4).eq h h37
    have hXG : X < 2 ^ l 0 1 := by omega
    have hb1 : ∀ Y, b = some Y → Y < X := fun Y hY => by
      rcases hb.1 with e | ⟨W, hW, e⟩
      · rw [e] at hY
        cases hY
      · rw [e] at hY
        rw [← Option.some.inj hY]
        exact hW.1
    -- the set is tried
    have try73 : (∀ Y, b = some Y → g_pc X < g_pc Y) → ∃ τ' b', S_X11_gaps_73 (fun σ x1 x2 x3 x4 x5 => L_X11_gaps_40 fuel σ x1 x2 x3 x4 x5) τ (nI s) (nI fld) (nI n) (oI b) (nI X) = some (oI b', τ') ∧ RM τ' l P nm D U F T sd rf ft im ∧ g_bt none b' (g_sol l P (D.1 2) (l 3 (2 * s + 1)) s fld 0 0 n (D.1 0) (D.2.1 s)) := fun hpc => by
      obtain ⟨τ2, p1, p2, p3, p4⟩ := pm_changes (set := X) hg (by omega) tv.1 tv.2.1
      have tv2 := tv.ch p3 p4 p2
      rw [show (fun i => (D.1 2).testBit i ^^ X.testBit i) = (fun i => (D.1 2 ^^^ X).testBit i) from funext fun i => (Nat.testBit_xor _ _ _).symm] at tv2
      obtain ⟨τ3, q1, q2, q3, q4⟩ := pm_oneGoes (N := n) hg (by omega) n sw_fuel 0 (D.1 0) (D.2.1 s) τ2 tv2.1 tv2.2.1 (tv2.2.2.1 s hs) hr hf0 tv2.2.2.2 (by omega) (by omega) (by omega)
      obtain ⟨τ4, s1, s2, s3, s4⟩ := pm_anew τ3
      have m3 : pm_sm [37, 73] [48, 54, 55, 56, 59, 101] τ1 τ3 := h.trans ((p3.mono (by decide) (by decide)).trans q3)
      have mm : pm_sm [37, 73] [48, 54, 55, 56, 59, 101] τ1 τ4 := m3.trans (s4.mono (by decide) (by decide))
      have e37 : τ4.1 37 = τ1.1 37 := by
        funext i
        by_cases hi : i < 84
        · rw [s2 i hi, m3.r (by decide) (by decide), r2 i hi, r3.r (by decide) (by decide)]
        · rw [s3 i (by omega), q4 i (by omega) (by omega), p4 i (by omega), h37]
      have eF : F_X11_fieldOf τ3 (nI s) = some (nI (g_go l P (fun k => (D.1 2 ^^^ X).testBit k) (l 3 (2 * s + 1)) s n (D.1 0) (D.2.1 s) 0), τ3) := by
        have e0 := q2.2.2.1 0 (by omega)
        unfold F_X11_fieldOf
        rw [show (12 : Int32) + 12 * nI s = nI (12 + 12 * s) from by rw [show (12 : Int32) = nI 12 from rfl, pk_mul, nI_add], if_pos (pz_inb (by omega) (by omega)), nI_clamp (by omega)]
        rw [Nat.add_zero] at e0
        rw [e0]
      have eO : F_X11_oneGoes τ2 (nI s) (nI n) = some ((), τ3) := by
        unfold F_X11_oneGoes
        exact q1
      have hfield := (g_go_rk (op := fun k => (D.1 2 ^^^ X).testBit k) (s := s) hg n (D.1 0) (D.2.1 s) hr hf0).2
      have hcon : g_con (l 0 1) 0 0 X := ⟨hXG, fun kk hk => by rw [Nat.zero_testBit] at hk; cases hk⟩
      by_cases e : g_go l P (fun k => (D.1 2 ^^^ X).testBit k) (l 3 (2 * s + 1)) s n (D.1 0) (D.2.1 s) 0 = fld
      · obtain ⟨τ5, b', t1, t2, t3⟩ := pm_gl hG hM hs hfl hn hdn r2 r3 r4 k fuel (X + 1) (some X) τ4 mm e37 ⟨Or.inr ⟨X, ⟨by omega, hcon, e⟩, rfl⟩, fun Y hY => by
          refine ⟨X, rfl, ?_⟩
          by_cases y : Y = X
          · rw [y]; exact g_le2_rf X
          · obtain ⟨W, hW, hle⟩ := hb.2.1 Y ⟨by omega, hY.2⟩
            have := hpc W hW
            unfold g_le2 at hle ⊢
            omega, fun Q hQ => by cases hQ⟩ (by omega) (by omega)
        refine ⟨τ5, b', ?_, t2, t3⟩
        unfold S_X11_gaps_73 S_X11_gaps_98 S_X11_gaps_102
        rw [p1]
        dsimp only [Option.bind_some]
        rw [eO]
        dsimp only [Option.bind_some]
        rw [eF]
        dsimp only [Option.bind_some]
        rw [if_pos (by rw [e]), s1]
        dsimp only [Option.bind_some]
        rw [nI_1]
        exact t1
      · obtain ⟨τ5, b', t1, t2, t3⟩ := pm_gl hG hM hs hfl hn hdn r2 r3 r4 k fuel (X + 1) b τ4 mm e37 (g_bt_eq hb (fun Y => ⟨fun y => ⟨by omega, y.2⟩, fun y => ⟨by
          by_cases y2 : Y = X
          · exact absurd (y2 ▸ y.2.2) e
          · omega, y.2⟩⟩)) (by omega) (by omega)
        refine ⟨τ5, b', ?_, t2, t3⟩
        unfold S_X11_gaps_73 S_X11_gaps_98 S_X11_gaps_102
        rw [p1]
        dsimp only [Option.bind_some]
        rw [eO]
        dsimp only [Option.bind_some]
        rw [eF]
        dsimp only [Option.bind_some]
        rw [if_neg (fun y => e (by rw [nI_eq (by omega) (by omega)] at y; exact y)), s1]
        dsimp only [Option.bind_some]
        rw [nI_1]
        exact t1
    have e40 : L_X11_gaps_40 (fuel + 1) τ (nI s) (nI fld) (nI n) (oI b) (nI X) = S_X11_gaps_40 (fun σ x1 x2 x3 x4 x5 => L_X11_gaps_40 fuel σ x1 x2 x3 x4 x5) τ (nI s) (nI fld) (nI n) (oI b) (nI X) := rfl
    rw [e40]
    unfold S_X11_gaps_40 F_X11_gapMany
    dsimp only [Option.bind_some]
    rw [tv.1.2.1, pz_shl (by omega), if_neg (nI_ge hXG (by omega))]
    cases hbb : b with
    | none =>
      rw [if_pos (show oI none = -1 from rfl)]
      rw [hbb] at try73
      exact try73 (fun Y hY => by cases hY)
    | some W =>
      have hWX := hb1 W hbb
      have hp1 := g_pc_le X
      have hp2 := g_pc_le W
      rw [if_neg (show ¬ oI (some W) = -1 from pz_nm1 (by omega)), pm_bits (by omega)]
      dsimp only [Option.bind_some]
      rw [show oI (some W) = nI W from rfl, pm_bits (by omega)]
      dsimp only [Option.bind_some]
      by_cases e : g_pc X < g_pc W
      · rw [if_pos (nI_lt e (by omega)), show nI W = oI (some W) from rfl]
        rw [hbb] at try73
        exact try73 (fun Y hY => by rw [← Option.some.inj hY]; exact e)
      · rw [if_neg (nI_nlt (by omega) (by omega))]
        unfold S_X11_gaps_102
        rw [nI_1, show nI W = oI (some W) from rfl, ← hbb]
        exact pm_gl hG hM hs hfl hn hdn r2 r3 r4 k fuel (X + 1) b τ h h37 ⟨by
          rcases hb.1 with y | ⟨Y, hY, y⟩
          · exact Or.inl y
          · exact Or.inr ⟨Y, ⟨by omega, hY.2⟩, y⟩, fun Y hY => by
          by_cases y : Y = X
          · refine ⟨W, hbb, ?_⟩
            rw [y]
            unfold g_le2
            omega
          · exact hb.2.1 Y ⟨by omega, hY.2⟩, hb.2.2⟩ (by omega) (by omega)
theorem op_15 : ll_15 RR := by
  intro x m hR a b c
  obtain ⟨w, l, P, nm, D, U, F, T, sd, rf, ft, im, hG, hX, hM⟩ := hR
  have hR : RR x m := ⟨w, l, P, nm, D, U, F, T, sd, rf, ft, im, hG, hX, hM⟩
  have hd := hG.2.2.1.1
  have hfu := sw_fuel_ge
  have g1 := hG.1.2.1
  have h2p : 2 ^ l 0 1 ≤ 2 ^ 10 := Nat.pow_le_pow_right (by omega) g1
  unfold F_X10_gaps F_X11_gaps S_X10_gaps_26 S_X11_gaps_28
  rw [px_isSheep hG.1 hX.1, pm_isSheep hG.1 hM.1]
  dsimp only [Option.bind_some]
  by_cases h : g_in a (l 0 2) = true
  · obtain ⟨s, hs, rfl⟩ := g_in_of h
    rw [if_pos h, if_neg pz_10, if_neg pz_10, px_isField hG.1 hX.1, pm_isField hG.1 hM.1]
    dsimp only [Option.bind_some]
    by_cases h' : g_in b (l 0 0) = true
    · obtain ⟨fld, hfl, rfl⟩ := g_in_of h'
      rw [if_pos h', if_neg pz_10, if_neg pz_10, show F_X11_isAhead m c 0 20 = _ from pm_ahead (lo := 0) (most := 20) hd (by omega) (by omega) hM.2.2.1.1, show F_X10_canCome x c 20 = _ from px_can (most := 20) hd (by omega) hX.2.2.2.1.1]
      dsimp only [Option.bind_some]
      by_cases hc : g_cm c 0 20 (D.1 0) = true
      · obtain ⟨n, hn1, hn2, hn3, rfl⟩ := g_cm_of hc
        rw [if_pos hc, if_neg pz_10, if_neg pz_10]
        obtain ⟨σ1, b1, p1, p2, p3⟩ := px_gaps hG hs hfl hn2 hn3 hX
        obtain ⟨τ1, r1, r2, r3, r4⟩ := pm_aside m
        obtain ⟨τ2, b2, q1, q2, q3⟩ := pm_gl hG hM hs hfl hn2 hn3 r2 r3 r4 (2 ^ l 0 1) sw_fuel 0 none τ1 (pm_sm.refl _ _ _) rfl (g_bt_rf (fun X hX => by omega)) (by omega) (by omega)
        rw [p1, r1]
        dsimp only [Option.bind_some]
        rw [show L_X11_gaps_40 sw_fuel τ1 (nI s) (nI fld) (nI n) (-1) 0 = _ from q1, g_bt_un p3 q3]
        exact ⟨_, σ1, τ2, rfl, rfl, w, l, P, nm, D, U, F, T, sd, rf, ft, im, hG, p2, q2⟩
      · rw [if_neg hc, if_pos rfl, if_pos rfl]
        exact ⟨-1, x, m, rfl, rfl, hR⟩
    · rw [if_neg h', if_pos rfl, if_pos rfl]
      exact ⟨-1, x, m, rfl, rfl, hR⟩
  · rw [if_neg h, if_pos rfl, if_pos rfl]
    exact ⟨-1, x, m, rfl, rfl, hR⟩

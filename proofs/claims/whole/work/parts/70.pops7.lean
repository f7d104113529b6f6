/-! Waits, shear, undo. -/
def g_up (k v : Nat) (a : Nat × Nat) : Nat × Nat := if a.2 < v then (k, v) else a
def g_wait (l : Nat → Nat → Nat) (P : Nat → List Nat) (op : Nat → Bool) (cur s : Nat) : Nat → Nat → Nat → (Nat → Nat) → Nat × Nat → Nat × Nat
  | 0, _, _, _, a => a
  | n + 1, d, day, row, a => g_wait l P op cur s n (d + 1) (day + 1) (g_step l P op day cur row s) (g_up d (g_worth l P (day + 1) cur (g_step l P op day cur row s) s) a)
theorem g_worth_le (l : Nat → Nat → Nat) (P : Nat → List Nat) (day cur : Nat) (row : Nat → Nat) (s : Nat) : g_worth l P day cur row s ≤ 9999 := by
  unfold g_worth g_cut
  split
  · omega
  · split <;> omega
theorem px_wloop {w opn cur s N : Nat} {l : Nat → Nat → Nat} {P : Nat → List Nat} {x3 : Int32} (hg : g_ld l P) (ho : opn < 1024) (hN : N ≤ 60) : ∀ (n fuel d day : Nat) (row : Nat → Nat) (a : Nat × Nat) (σ : sw_St), px_ld σ w l P → px_vw σ 46 day opn cur row s → g_rk cur row → row 0 < l 0 0 → σ.1 34 2 = nI 0 → d + n = N + 1 → n < fuel → day + n ≤ 999 → a.2 ≤ 9999 →
    ∃ σ', L_X1_bestWait_32 fuel σ (nI s) (nI N) x3 (nI a.1) (nI a.2) (nI d) = some (if x3 = 0 then nI (g_wait l P (fun k => opn.testBit k) cur s n d day row a).1 else nI (g_wait l P (fun k => opn.testBit k) cur s n d day row a).2, σ') ∧ pz_sm [34, 35, 36, 37, 46, 47, 48, 49, 52] σ σ' ∧ σ'.1 34 2 = nI 0
  | 0, fuel + 1, d, day, row, a, σ, hl, hv, hr, hf, ht, hd, hfu, hday, ha => by
    refine ⟨σ, ?_, pz_sm.refl _ _, ht⟩
    show S_X1_bestWait_32 _ σ (nI s) (nI N) x3 (nI a.1) (nI a.2) (nI d) = _
    unfold S_X1_bestWait_32 S_X1_bestWait_97
    rw [if_pos (nI_lt (by omega) (by omega))]
    by_cases h : x3 = 0
    · rw [if_pos h, if_pos h]; rfl
    · rw [if_neg h, if_neg h]; rfl
  | n + 1, fuel + 1, d, day, row, a, σ, hl, hv, hr, hf, ht, hd, hfu, hday, ha => by
    obtain ⟨σ1, p1, p2, p3, p4, p5⟩ := px_go1 (B := []) hg ho (by simp) hl hv hr hf trivial ht (by omega)
    have hl1 := hl.mv p3 (by decide)
    have hr1 : g_rk cur (g_step l P (fun k => opn.testBit k) day cur row s) := g_step_rk hg hr
    obtain ⟨σ2, q1, q2, q3, q4⟩ := px_worth (B := []) hg hl1 p2 hr1 (by omega) (by simp) trivial p5
    have hw9 := g_worth_le l P (day + 1) cur (g_step l P (fun k => opn.testBit k) day cur row s) s
    have ha2 : (g_up d (g_worth l P (day + 1) cur (g_step l P (fun k => opn.testBit k) day cur row s) s) a).2 ≤ 9999 := by
      unfold g_up
      split
      · exact hw9
      · exact ha
    have m2 : pz_sm [34, 35, 36, 37, 46, 47, 48, 49, 52] σ σ2 := p3.trans (q2.mono (by decide))
    obtain ⟨σ3, r1, r2, r3⟩ := px_wloop (x3 := x3) hg ho hN n fuel (d + 1) (day + 1) _ (g_up d (g_worth l P (day + 1) cur (g_step l P (fun k => opn.testBit k) day cur row s) s) a) σ2 (hl1.mv q2 (by decide)) (p2.mv q2 (by decide)) hr1 (g_step_f hg hf) q4 (by omega) (by omega) (by omega) ha2
    refine ⟨σ3, ?_, m2.trans r2, r3⟩
    show S_X1_bestWait_32 _ σ (nI s) (nI N) x3 (nI a.1) (nI a.2) (nI d) = _
    unfold S_X1_bestWait_32 S_X1_bestWait_80
    rw [if_neg (nI_nlt (by omega) (by omega)), p1]
    dsimp only [Option.bind]
    rw [q1]
    dsimp only
    rw [nI_1]
    show _ = some (if x3 = 0 then nI (g_wait l P (fun k => opn.testBit k) cur s n (d + 1) (day + 1) (g_step l P (fun k => opn.testBit k) day cur row s) (g_up d (g_worth l P (day + 1) cur (g_step l P (fun k => opn.testBit k) day cur row s) s) a)).1 else nI (g_wait l P (fun k => opn.testBit k) cur s n (d + 1) (day + 1) (g_step l P (fun k => opn.testBit k) day cur row s) (g_up d (g_worth l P (day + 1) cur (g_step l P (fun k => opn.testBit k) day cur row s) s) a)).2, σ3)
    rw [← r1]
    unfold g_up
    by_cases h : a.2 < g_worth l P (day + 1) cur (g_step l P (fun k => opn.testBit k) day cur row s) s
    · rw [if_pos h, if_neg (nI_ge h (by omega))]
    · rw [if_neg h, if_pos (nI_le (by omega) (by omega))]
theorem pm_wloop {cur s N : Nat} {l : Nat → Nat → Nat} {P : Nat → List Nat} {op : Nat → Bool} {x3 : Int32} (hg : g_ld l P) (hN : N ≤ 60) : ∀ (n fuel d day : Nat) (row : Nat → Nat) (a : Nat × Nat) (x4 x5 : Int32) (τ : sw_St), pm_ld τ l P → pm_op τ l op → pm_vw τ l day cur row s → g_rk cur row → row 0 < l 0 0 → τ.1 0 58 = 1 → d + n = N → n + 1 < fuel → day + n ≤ 5000 → a.2 ≤ 9999 → ((¬ nI (g_worth l P day cur row s) ≤ x5 ∧ a = (d, g_worth l P day cur row s)) ∨ (nI (g_worth l P day cur row s) ≤ x5 ∧ x4 = nI a.1 ∧ x5 = nI a.2)) →
    ∃ τ2, (∃ τ', F_X11_takesBack τ2 = some ((), τ') ∧ L_X11_waits_44 fuel τ (nI s) (nI N) x3 x4 x5 (nI d) = some (if x3 = 0 then nI (g_wait l P op cur s n (d + 1) day row a).1 else nI (g_wait l P op cur s n (d + 1) day row a).2, τ')) ∧ pm_sm [37, 73] [48, 54, 55, 56, 59, 101] τ τ2 ∧ (∀ i, 84 ≤ i → τ2.1 37 i = τ.1 37 i)
  | n, fuel + 1, d, day, row, a, x4, x5, τ, hl, ho, hv, hr, hf, ht, hd, hfu, hday, ha, hx => by
    have g1 := hg.2.1
    have hs := hv.1
    obtain ⟨τ1, p1, p2⟩ := pm_worth hg hl hv hr (by omega)
    have hl1 := hl.mv p2 (by unfold pm_LS; decide)
    have ho1 : pm_op τ1 l op := fun k hk => by rw [p2.r (by decide) (by decide)]; exact ho k hk
    obtain ⟨τ2, q1, q2, q3, q4⟩ := pm_go1 hg hl1 ho1 (hv.mv p2 (by decide) (by decide)) hr hf (by rw [p2.2.1 58 (by decide)]; exact ht) (by omega)
    have hl2 := hl1.mv q3 (by unfold pm_LS; decide)
    have ho2 : pm_op τ2 l op := fun k hk => by rw [q4 _ (by omega) (by omega)]; exact ho1 k hk
    have m2 : pm_sm [37, 73] [48, 54, 55, 56, 59, 101] τ τ2 := (p2.mono (by decide) (by decide)).trans q3
    have k84 : ∀ i, 84 ≤ i → τ2.1 37 i = τ.1 37 i := fun i hi => by rw [q4 i (by omega) (by omega), p2.r (by decide) (by decide)]
    have go : S_X11_waits_44 (fun σ x1 x2 x3 x4 x5 x6 => L_X11_waits_44 fuel σ x1 x2 x3 x4 x5 x6) τ (nI s) (nI N) x3 x4 x5 (nI d) = L_X11_waits_44 fuel τ2 (nI s) (nI N) x3 (nI a.1) (nI a.2) (nI (d + 1)) := by
      unfold S_X11_waits_44 S_X11_waits_72
      rw [if_neg (nI_nlt (by omega) (by omega)), p1]
      dsimp only [Option.bind]
      rw [q1, nI_1]
      dsimp only
      rcases hx with ⟨h1, h2⟩ | ⟨h1, h2, h3⟩
      · rw [if_neg h1, h2]
      · rw [if_pos h1, h2, ← h3]
    show ∃ τ2, (∃ τ', _ ∧ S_X11_waits_44 _ τ (nI s) (nI N) x3 x4 x5 (nI d) = _) ∧ _
    rw [go]
    cases n with
    | zero =>
      obtain ⟨τ', u1, -⟩ := pm_back τ2
      refine ⟨τ2, ⟨τ', u1, ?_⟩, m2, k84⟩
      cases fuel with
      | zero => omega
      | succ fuel =>
        show S_X11_waits_44 _ τ2 (nI s) (nI N) x3 (nI a.1) (nI a.2) (nI (d + 1)) = _
        unfold S_X11_waits_44 S_X11_waits_99
        rw [if_pos (nI_lt (by omega) (by omega)), u1]
        dsimp only [Option.bind]
        by_cases h : x3 = 0
        · rw [if_pos h, if_pos h]; rfl
        · rw [if_neg h, if_neg h]; rfl
    | succ n =>
      have hw9 := g_worth_le l P (day + 1) cur (g_step l P op day cur row s) s
      have ha2 : (g_up (d + 1) (g_worth l P (day + 1) cur (g_step l P op day cur row s) s) a).2 ≤ 9999 := by
        unfold g_up
        split
        · exact hw9
        · exact ha
      obtain ⟨τ3, r1, r2, r3⟩ := pm_wloop (x3 := x3) hg hN n fuel (d + 1) (day + 1) (g_step l P op day cur row s) (g_up (d + 1) (g_worth l P (day + 1) cur (g_step l P op day cur row s) s) a) (nI a.1) (nI a.2) τ2 hl2 ho2 q2 (g_step_rk hg hr) (g_step_f hg hf) (by rw [m2.2.1 58 (by decide)]; exact ht) (by omega) (by omega) (by omega) ha2 (by
        unfold g_up
        by_cases h : a.2 < g_worth l P (day + 1) cur (g_step l P op day cur row s) s
        · exact Or.inl ⟨nI_ge h (by omega), by rw [if_pos h]⟩
        · exact Or.inr ⟨nI_le (by omega) (by omega), by rw [if_neg h], by rw [if_neg h]⟩)
      exact ⟨τ3, r1, m2.trans r2, fun i hi => by rw [r3 i hi, k84 i hi]⟩
theorem op_18 : ll_18 RR := by
  intro x m hR a b c
  obtain ⟨w, l, P, nm, D, U, F, T, sd, rf, ft, im, hG, hX, hM⟩ := hR
  have hR : RR x m := ⟨w, l, P, nm, D, U, F, T, sd, rf, ft, im, hG, hX, hM⟩
  have g1 := hG.1.2.1
  have g2 := hG.1.2.2.1
  have hd := hG.2.2.1.1
  have hoL := hG.2.2.1.2.2.1
  have h2p : 2 ^ l 0 1 ≤ 2 ^ 10 := Nat.pow_le_pow_right (by omega) g1
  unfold F_X10_waits F_X11_waits S_X10_waits_27 S_X11_waits_29
  rw [px_isSheep hG.1 hX.1, pm_isSheep hG.1 hM.1]
  dsimp only [Option.bind]
  by_cases h : g_in a (l 0 2) = true
  · obtain ⟨s, hs, rfl⟩ := g_in_of h
    obtain ⟨hr, hf⟩ := hG.2.2.1.2.2.2.1 s hs
    have hxv := hX.2.2.2.1.vw (Or.inl rfl) hs g2
    have hmv := hM.2.2.1.vw hM.1 hs g2 hM.2.2.2.2.2.2.2.2.2.2.1.1
    rw [if_pos h, if_neg pz_10, if_neg pz_10, show (60 : Int32) = nI 60 from rfl, px_can hd (by omega) hX.2.2.2.1.1, show F_X11_isAhead m b 0 (nI 60) = _ from pm_ahead (lo := 0) hd (by omega) (by omega) hM.2.2.1.1]
    dsimp only
    by_cases h' : g_cm b 0 60 (D.1 0) = true
    · obtain ⟨n, hn1, hn2, hn3, rfl⟩ := g_cm_of h'
      rw [if_pos h', if_neg pz_10, if_neg pz_10, pm_inL m c 1 (by decide)]
      dsimp only
      by_cases hc : g_in c 2 = true
      · obtain ⟨j, hj, rfl⟩ := g_in_of hc
        rw [if_pos hc, if_neg pz_10, if_neg (nI_pos (by omega)), if_pos (show nI j ≤ (1 : Int32) from nI_le (b := 1) (by omega) (by omega))]
        obtain ⟨σ1, p1, p2, p3⟩ := px_copyOne hxv
        have hl1 := hX.1.mv p3 (by decide)
        obtain ⟨σ2, q1, q2, q3, q4⟩ := px_worth (B := []) hG.1 hl1 p2 hr (by omega) (by simp) trivial (by rw [p3.r (by decide)]; exact hX.2.2.2.2.2.2.2.2.2.2.2.1)
        have hw9 := g_worth_le l P (D.1 0) (l 3 (2 * s + 1)) (D.2.1 s) s
        obtain ⟨σ3, t1, t2, t3⟩ := px_wloop (x3 := nI j) hG.1 (show D.1 2 < 1024 by omega) hn2 n sw_fuel 1 (D.1 0) (D.2.1 s) (0, g_worth l P (D.1 0) (l 3 (2 * s + 1)) (D.2.1 s) s) σ2 (hl1.mv q2 (by decide)) (p2.mv q2 (by decide)) hr hf q4 (by omega) (by have := sw_fuel_ge; omega) hn3 hw9
        obtain ⟨τ1, r1, r2, r3, r4⟩ := pm_aside m
        have ho2 : pm_op τ1 l (fun k => (D.1 2).testBit k) := fun k hk => by rw [r3.r (by decide) (by decide)]; exact hM.2.2.1.op k hk
        obtain ⟨τ2, ⟨τ3, v1, v2⟩, v3, v4⟩ := pm_wloop (x3 := nI j) hG.1 hn2 n sw_fuel 0 (D.1 0) (D.2.1 s) (0, g_worth l P (D.1 0) (l 3 (2 * s + 1)) (D.2.1 s) s) (-1) (-1) τ1 (hM.1.mv r3 (by unfold pm_LS; decide)) ho2 (hmv.mv r3 (by decide) (by decide)) hr hf r4 (by omega) (by have := sw_fuel_ge; omega) (by omega) hw9 (Or.inl ⟨by rw [fa_le, pz_m1, nI_toInt (by omega)]; omega, rfl⟩)
        obtain ⟨τ4, u1, u2, u3, u4, u5, u6⟩ := pm_back τ2
        have e34 : τ3 = τ4 := by
          rw [v1] at u1
          cases u1
          rfl
        subst e34
        rw [r1]
        refine ⟨_, σ3, τ3, ?_, v2, w, l, P, nm, D, U, F, T, sd, rf, ft, im, hG, hX.mv ((p3.mono (by decide)).trans ((q2.mono (by decide)).trans (t2.mono (by decide)))) t3, hM.back r2 r3 v3 (by decide) (by decide) v4 u2 u3 u4 u5 u6⟩
        unfold F_X1_bestWait
        rw [p1]
        dsimp only [Option.bind]
        rw [q1]
        dsimp only
        rw [show (1 : Int32) = nI 1 from rfl, show (0 : Int32) = nI 0 from rfl, t1]
        rfl
      · rw [if_neg hc, if_pos rfl]
        refine ⟨-1, x, m, ?_, rfl, hR⟩
        rcases g_in_no hc (by omega) with q | ⟨q1, q2, q3⟩
        · rw [if_pos q]
        · rw [if_neg q1, if_neg (show ¬ c ≤ (1 : Int32) from by rw [fa_le, show (1 : Int32).toInt = 1 from by decide]; rw [fa_le, nI_toInt (by omega)] at q2; omega)]
    · rw [if_neg h', if_pos rfl, if_pos rfl]
      exact ⟨-1, x, m, rfl, rfl, hR⟩
  · rw [if_neg h, if_pos rfl, if_pos rfl]
    exact ⟨-1, x, m, rfl, rfl, hR⟩

/-! The fewest gaps to be changed: the class. -/
def px_tf (lf : Nat) (σ σ' : sw_St) : Prop := pz_sm [34, 35, 36, 46, 47, 48, 49, 52, 54, 56] σ σ' ∧ (∀ j, j ≠ 5 → σ'.1 54 j = σ.1 54 j) ∧ σ'.2.2 54 = σ.2.2 54 ∧ ∀ i, 10 * lf + 10 ≤ i → σ'.1 56 i = σ.1 56 i
theorem px_tf.refl (lf : Nat) (σ : sw_St) : px_tf lf σ σ := ⟨pz_sm.refl _ _, fun _ _ => rfl, rfl, fun _ _ => rfl⟩
theorem px_tf.trans {lf : Nat} {σ σ1 σ2 : sw_St} (h : px_tf lf σ σ1) (h2 : px_tf lf σ1 σ2) : px_tf lf σ σ2 := ⟨h.1.trans h2.1, fun j hj => (h2.2.1 j hj).trans (h.2.1 j hj), h2.2.2.1.trans h.2.2.1, fun i hi => (h2.2.2.2 i hi).trans (h.2.2.2 i hi)⟩
theorem px_tf.up {lf : Nat} {σ σ1 : sw_St} (h : px_tf lf σ σ1) : px_tf (lf + 1) σ σ1 := ⟨h.1, h.2.1, h.2.2.1, fun i hi => h.2.2.2 i (by omega)⟩
theorem px_tf.of {lf : Nat} {S : List Nat} {σ σ1 : sw_St} (h : pz_sm S σ σ1) (hS : ∀ o ∈ S, o ∈ [34, 35, 36, 46, 47, 48, 49, 52, 54, 56]) (h4 : 54 ∉ S) (h6 : ∀ i, 10 * lf + 10 ≤ i → σ1.1 56 i = σ.1 56 i) : px_tf lf σ σ1 := ⟨h.mono hS, fun j _ => h.r h4 j, (h 54 h4).2.2, h6⟩
/-- the state while days are tried -/
def px_ts (σ : sw_St) (w : Nat) (l : Nat → Nat → Nat) (P : Nat → List Nat) (O cur s day : Nat) (row : Nat → Nat) (b : Option Nat) : Prop := px_ld σ w l P ∧ px_vw σ 46 day O cur row s ∧ σ.1 38 2 = nI O ∧ σ.1 34 2 = nI 0 ∧ σ.1 54 5 = oI b
theorem px_ts.mv {σ σ' : sw_St} {w : Nat} {l : Nat → Nat → Nat} {P : Nat → List Nat} {O cur s day : Nat} {row : Nat → Nat} {b : Option Nat} {S : List Nat} (h : px_ts σ w l P O cur s day row b) (m : pz_sm S σ σ') (hS : ∀ o ∈ S, o = 35 ∨ o = 36 ∨ o = 34 ∨ o = 56) (h34 : σ'.1 34 2 = nI 0) : px_ts σ' w l P O cur s day row b :=
  ⟨h.1.mv m (fun o ho => by have := hS o ho; omega), h.2.1.mv m (fun o ho => by have := hS o ho; omega), by rw [m.r (fun y => by have := hS _ y; omega)]; exact h.2.2.1, h34, by rw [m.r (fun y => by have := hS _ y; omega)]; exact h.2.2.2.2⟩
def g_b1 (b : Option Nat) : Prop := ∀ Y, b = some Y → Y < 1024
theorem g_bt_b1 {b b' : Option Nat} {S : Nat → Prop} (h : g_bt b b' S) (hb : g_b1 b) (hS : ∀ X, S X → X < 1024) : g_b1 b' := fun Y hY => by
  rcases h.1 with e | ⟨X, hX, e⟩
  · exact hb Y (e ▸ hY)
  · rw [e] at hY
    rw [← Option.some.inj hY]
    exact hS X hX
theorem px_isF {σ : sw_St} {ch : Nat} {b : Option Nat} (h : σ.1 54 5 = oI b) (hb : g_b1 b) (hc : ch < 1024) : ∃ r : Bool, F_X1_isFewer σ (nI ch) = some (g_ok1 r, σ) ∧ (r = false → ∃ Y, b = some Y ∧ g_le2 Y ch) ∧ (r = true → ∀ Y, b = some Y → g_le2 ch Y) := by
  unfold F_X1_isFewer S_X1_isFewer_24 S_X1_isFewer_41 S_X1_isFewer_45 S_X1_isFewer_46
  rw [h]
  cases b with
  | none =>
    refine ⟨true, ?_, fun y => (by cases y), fun _ Y hY => (by cases hY)⟩
    rw [if_pos (show oI none = -1 from rfl), if_pos (by decide), if_pos (Or.inr rfl)]
    rfl
  | some Y =>
    have hY := hb Y rfl
    have p1 := g_pc_le ch
    have p2 := g_pc_le Y
    rw [if_neg (show ¬ oI (some Y) = -1 from pz_nm1 (by omega)), pz_bb (px_bc hc)]
    dsimp only
    rw [h, show oI (some Y) = nI Y from rfl, pz_bb (px_bc hY)]
    dsimp only
    have es : (nI (g_pc ch) - nI (g_pc Y)).toInt = (g_pc ch : Int) - g_pc Y := pk_sub_toInt (by omega) (by omega)
    by_cases c1 : g_pc ch < g_pc Y
    · refine ⟨true, ?_, fun y => (by cases y), fun _ Y2 hY2 => ?_⟩
      · rw [if_pos (by rw [fa_lt, es, show (0 : Int32).toInt = 0 from by decide]; omega), if_pos (Or.inr rfl)]
        rfl
      · rw [← Option.some.inj hY2]
        exact Or.inl c1
    · rw [if_neg (by rw [fa_lt, es, show (0 : Int32).toInt = 0 from by decide]; omega)]
      by_cases c2 : g_pc ch = g_pc Y
      · rw [if_pos (by rw [fa_eq, es, show (0 : Int32).toInt = 0 from by decide]; omega)]
        by_cases c3 : Y ≤ ch
        · refine ⟨false, ?_, fun _ => ⟨Y, rfl, Or.inr ⟨c2.symm, c3⟩⟩, fun y => (by cases y)⟩
          rw [h, show oI (some Y) = nI Y from rfl, if_pos (nI_le c3 (by omega)), if_pos (Or.inl rfl)]
          rfl
        · refine ⟨true, ?_, fun y => (by cases y), fun _ Y2 hY2 => ?_⟩
          · rw [h, show oI (some Y) = nI Y from rfl, if_neg (nI_ge (by omega) (by omega)), if_pos (Or.inr rfl)]
            rfl
          · rw [← Option.some.inj hY2]
            exact Or.inr ⟨c2, by omega⟩
      · refine ⟨false, ?_, fun _ => ⟨Y, rfl, Or.inl (by omega)⟩, fun y => (by cases y)⟩
        rw [if_neg (by rw [fa_eq, es, show (0 : Int32).toInt = 0 from by decide]; omega), if_pos (Or.inl rfl)]
        rfl
/-- what trying the days left does -/
def px_TD (rc : sw_St → Int32 → Int32 → Int32 → Int32 → Int32 → Option (Unit × sw_St)) (w : Nat) (l : Nat → Nat → Nat) (P : Nat → List Nat) (O cur s fld n : Nat) : Prop := ∀ (σ : sw_St) (day dec ch : Nat) (row : Nat → Nat) (b : Option Nat), px_ts σ w l P O cur s day row b → g_rk cur row → row 0 < l 0 0 → day + n ≤ 999 → g_b1 b → g_dc (l 0 1) dec ch →
    ∃ σ' b', rc σ (nI s) (nI fld) (nI n) (nI dec) (nI ch) = some ((), σ') ∧ px_tf n σ σ' ∧ px_ts σ' w l P O cur s day row b' ∧ g_bt b b' (g_sol l P O cur s fld dec ch n day row)
theorem g_sol_lt {l : Nat → Nat → Nat} {P : Nat → List Nat} {O cur s fld dec ch n day X : Nat} {row : Nat → Nat} (hG : l 0 1 ≤ 10) (h : g_sol l P O cur s fld dec ch n day row X) : X < 1024 := by
  have h2p : 2 ^ l 0 1 ≤ 2 ^ 10 := Nat.pow_le_pow_right (by omega) hG
  have := h.1.1
  omega
/-- a day on which it stays -/
theorem px_t216 {rc : sw_St → Int32 → Int32 → Int32 → Int32 → Int32 → Option (Unit × sw_St)} {σ : sw_St} {w : Nat} {l : Nat → Nat → Nat} {P : Nat → List Nat} {O cur s fld n day dec ch : Nat} {row : Nat → Nat} {b : Option Nat} (hrc : px_TD rc w l P O cur s fld n) (hs6 : s < 6) (h : px_ts σ w l P O cur s day row b) (hr : g_rk cur row) (hf : row 0 < l 0 0) (hd : day + (n + 1) ≤ 999) (hb : g_b1 b) (hdc : g_dc (l 0 1) dec ch) :
    ∃ σ' b', S_X1_tryDays_216 rc σ (nI s) (nI fld) (nI (n + 1)) (nI dec) (nI ch) = some ((), σ') ∧ px_tf (n + 1) σ σ' ∧ px_ts σ' w l P O cur s day row b' ∧ g_bt b b' (g_sol l P O cur s fld dec ch n (day + 1) row) := by
  obtain ⟨h1, h2, h3, h4, h5⟩ := h
  obtain ⟨a1, a2, a3, a4, a5, a6, a7, a8, a9, a10⟩ := h2
  have m1 : pz_sm [46] σ (sw_uI σ 46 0 (nI (day + 1))) := (pz_sm.refl _ σ).I (by decide) _ _
  obtain ⟨σ1, b', p1, p2, p3, p4⟩ := hrc (sw_uI σ 46 0 (nI (day + 1))) (day + 1) dec ch row b ⟨h1.mv m1 (by decide), ⟨a1, a2, pz_Ie rfl rfl, by rw [pz_Ik (by decide)]; exact a4, by rw [pz_Io (by decide)]; exact a5, by rw [pz_Io (by decide)]; exact a6, by rw [pz_Io (by decide)]; exact a7, by rw [pz_Io (by decide)]; exact a8, by rw [pz_Io (by decide)]; exact a9, fun f hf => by rw [pz_Io (by decide)]; exact a10 f hf⟩, by rw [pz_Io (by decide)]; exact h3, by rw [pz_Io (by decide)]; exact h4, by rw [pz_Io (by decide)]; exact h5⟩ hr hf (by omega) hb hdc
  obtain ⟨g1, g2, g3, g4, g5⟩ := p3
  obtain ⟨c1, c2, c3, c4, c5, c6, c7, c8, c9, c10⟩ := g2
  have m3 : pz_sm [46] σ1 (sw_uI σ1 46 0 (nI day)) := (pz_sm.refl _ σ1).I (by decide) _ _
  refine ⟨sw_uI σ1 46 0 (nI day), b', ?_, ((px_tf.of m1 (by decide) (by decide) (fun i _ => by rw [pz_Io (by decide)])).trans p2.up).trans (px_tf.of m3 (by decide) (by decide) (fun i _ => by rw [pz_Io (by decide)])), ⟨g1.mv m3 (by decide), ⟨c1, c2, pz_Ie rfl rfl, by rw [pz_Ik (by decide)]; exact c4, by rw [pz_Io (by decide)]; exact c5, by rw [pz_Io (by decide)]; exact c6, by rw [pz_Io (by decide)]; exact c7, by rw [pz_Io (by decide)]; exact c8, by rw [pz_Io (by decide)]; exact c9, fun f hf => by rw [pz_Io (by decide)]; exact c10 f hf⟩, by rw [pz_Io (by decide)]; exact g3, by rw [pz_Io (by decide)]; exact g4, by rw [pz_Io (by decide)]; exact g5⟩, p4⟩
  unfold S_X1_tryDays_216
  rw [a3, nI_1, show nI (n + 1) - 1 = nI n from nI_pred n, p1]
  dsimp only [Option.bind_some]
  rw [c3, show nI (day + 1) - 1 = nI day from nI_pred day]
/-- a day on which it strays through a gap -/
theorem px_tthr {rc : sw_St → Int32 → Int32 → Int32 → Int32 → Int32 → Option (Unit × sw_St)} {σ : sw_St} {w : Nat} {l : Nat → Nat → Nat} {P : Nat → List Nat} {O cur s fld n day dec ch g bb : Nat} {row : Nat → Nat} {b : Option Nat} (hg : g_ld l P) (hrc : px_TD rc w l P O cur s fld n) (hs6 : s < 6) (h : px_ts σ w l P O cur s day row b) (hr : g_rk cur row) (hf : row 0 < l 0 0) (hd : day + (n + 1) ≤ 999) (hb : g_b1 b) (hdc : g_dc (l 0 1) dec ch) (hgg : g < l 0 1) (hbey : g_bey l g (row 0) = some bb) :
    ∃ σ' b', F_X1_tryThrough rc σ (nI s) (nI fld) (nI (n + 1)) (nI g) (nI dec) (nI ch) = some ((), σ') ∧ px_tf n σ σ' ∧ px_ts σ' w l P O cur s day row b' ∧ g_bt b b' (g_sol l P O cur s fld dec ch n (day + 1) (g_pass l row g)) := by
  have h8 := hg.1
  have hb8 := g_bey_lt hg hgg hbey
  obtain ⟨h1, h2, h3, h4, h5⟩ := h
  obtain ⟨σ1, p1, p2, p3, -, -⟩ := px_pass hg h1 h2 hr hgg hbey
  have h2' := h2
  obtain ⟨a1, a2, a3, a4, a5, a6, a7, a8, a9, a10⟩ := h2
  obtain ⟨d1, d2, d3, d4, d5, d6, d7, d8, d9, d10⟩ := p2
  have m1 : pz_sm [46, 47, 48, 49, 52] σ (sw_uI σ1 46 0 (nI (day + 1))) := (p3.mono (by decide)).I (by decide) _ _
  have hr' := g_pass_rk hg hgg hr
  have hf' : g_pass l row g 0 < l 0 0 := by
    unfold g_pass
    rw [hbey]
    exact hb8.1
  obtain ⟨σ2, b', q1, q2, q3, q4⟩ := hrc (sw_uI σ1 46 0 (nI (day + 1))) (day + 1) dec ch (g_pass l row g) b ⟨h1.mv m1 (by decide), ⟨d1, d2, pz_Ie rfl rfl, by rw [pz_Ik (by decide)]; exact d4, by rw [pz_Io (by decide)]; exact d5, by rw [pz_Io (by decide)]; exact d6, by rw [pz_Io (by decide)]; exact d7, by rw [pz_Io (by decide)]; exact d8, by rw [pz_Io (by decide)]; exact d9, fun f hf => by rw [pz_Io (by decide)]; exact d10 f hf⟩, by rw [m1.r (by decide)]; exact h3, by rw [m1.r (by decide)]; exact h4, by rw [m1.r (by decide)]; exact h5⟩ hr' hf' (by omega) hb hdc
  obtain ⟨g1, g2, g3, g4, g5⟩ := q3
  obtain ⟨c1, c2, c3, c4, c5, c6, c7, c8, c9, c10⟩ := g2
  have m3 : pz_sm [46, 47, 48, 49, 52] σ2 (sw_uI (sw_uI (sw_uI (sw_uI (sw_uI σ2 46 0 (nI day)) 47 s (nI (row 0))) 52 (8 * s + bb) (nI (row (4 + bb)))) 48 s (nI (row 1))) 49 s (nI (row 2))) := (((((pz_sm.refl _ σ2).I (by decide) _ _).I (by decide) _ _).I (by decide) _ _).I (by decide) _ _).I (by decide) _ _
  have k47 : σ.1 47 s = nI (row 0) := a5
  have k48 : σ.1 48 s = nI (row 1) := a6
  have k49 : σ.1 49 s = nI (row 2) := a7
  have k52 : ∀ f, f < 8 → σ.1 52 (8 * s + f) = nI (row (4 + f)) := a10
  refine ⟨_, b', ?_, ((px_tf.of m1 (by decide) (by decide) (fun i _ => by rw [m1.r (by decide)])).trans q2).trans (px_tf.of m3 (by decide) (by decide) (fun i _ => by rw [m3.r (by decide)])), ⟨g1.mv m3 (by decide), ⟨c1, c2, ?_, ?_, ?_, ?_, ?_, ?_, ?_, fun f hf => ?_⟩, by rw [m3.r (by decide)]; exact g3, by rw [m3.r (by decide)]; exact g4, by rw [m3.r (by decide)]; exact g5⟩, q4⟩
  · unfold F_X1_tryThrough
    rw [if_pos (pz_inb (show s < 6 by omega) (by omega)), h1.2.1]
    dsimp only [Option.bind_some]
    rw [if_pos (ld_O h1.1), nI_clamp (show s < 2 ^ 31 by omega), k47, px_beyond hg h1 hgg (by omega), hbey]
    dsimp only [Option.bind_some]
    rw [if_neg (show ¬ oI (some bb) = -1 from pz_nm1 (by omega)), show oI (some bb) = nI bb from rfl, px_ix8, if_pos (pz_inb (show 8 * s + bb < 48 by omega) (by omega)), if_pos (pz_inb (show s < 6 by omega) (by omega)), if_pos (pz_inb (show s < 6 by omega) (by omega)), p1]
    dsimp only [Option.bind_some]
    rw [d3, nI_1, show nI (n + 1) - 1 = nI n from nI_pred n, q1]
    dsimp only [Option.bind_some]
    rw [if_pos (pz_inb (show s < 6 by omega) (by omega)), if_pos (pz_inb (show 8 * s + bb < 48 by omega) (by omega)), if_pos (pz_inb (show s < 6 by omega) (by omega)), if_pos (pz_inb (show s < 6 by omega) (by omega)), nI_clamp (show 8 * s + bb < 2 ^ 31 by omega), k48, k49, k52 bb hb8.2, c3, show nI (day + 1) - 1 = nI day from nI_pred day]
  · rw [pz_Io (by decide), pz_Io (by decide), pz_Io (by decide), pz_Io (by decide), pz_Ie rfl rfl]
  · rw [pz_Io (by decide), pz_Io (by decide), pz_Io (by decide), pz_Io (by decide), pz_Ik (by decide)]; exact c4
  · show (sw_uI (sw_uI (sw_uI (sw_uI (sw_uI σ2 46 0 (nI day)) 47 s (nI (row 0))) 52 (8 * s + bb) (nI (row (4 + bb)))) 48 s (nI (row 1))) 49 s (nI (row 2))).1 47 s = _
    rw [pz_Io (by decide), pz_Io (by decide), pz_Io (by decide), pz_Ie rfl rfl]
  · show (sw_uI (sw_uI (sw_uI (sw_uI (sw_uI σ2 46 0 (nI day)) 47 s (nI (row 0))) 52 (8 * s + bb) (nI (row (4 + bb)))) 48 s (nI (row 1))) 49 s (nI (row 2))).1 48 s = _
    rw [pz_Io (by decide), pz_Ie rfl rfl]
  · show (sw_uI (sw_uI (sw_uI (sw_uI (sw_uI σ2 46 0 (nI day)) 47 s (nI (row 0))) 52 (8 * s + bb) (nI (row (4 + bb)))) 48 s (nI (row 1))) 49 s (nI (row 2))).1 49 s = _
    rw [pz_Ie rfl rfl]
  · rw [m3.r (by decide), c8]
    unfold g_pass
    rw [hbey]
    congr 1
    show (if (3 : Nat) = 0 then _ else _) = _
    rw [if_neg (by omega), if_neg (by omega), if_neg (by omega), if_neg (by omega)]
  · rw [m3.r (by decide)]; exact c9
  · show (sw_uI (sw_uI (sw_uI (sw_uI (sw_uI σ2 46 0 (nI day)) 47 s (nI (row 0))) 52 (8 * s + bb) (nI (row (4 + bb)))) 48 s (nI (row 1))) 49 s (nI (row 2))).1 52 (8 * s + f) = _
    rw [pz_Io (by decide), pz_Io (by decide)]
    by_cases e : f = bb
    · rw [pz_Ie rfl (by omega), e]
    · rw [pz_Ik (by omega), pz_Io (by decide), pz_Io (by decide), show σ2.1 52 (8 * s + f) = nI (g_pass l row g (4 + f)) from c10 f hf]
      unfold g_pass
      rw [hbey]
      congr 1
      show (if 4 + f = 0 then _ else _) = _
      rw [if_neg (by omega), if_neg (by omega), if_neg (by omega), if_neg (by omega)]
theorem g_sol_s {l : Nat → Nat → Nat} {P : Nat → List Nat} {O cur s fld dec ch n day X : Nat} {row row' : Nat → Nat} (hc : g_con (l 0 1) dec ch X → g_step l P (fun k => (O ^^^ X).testBit k) day cur row s = row') : g_sol l P O cur s fld dec ch (n + 1) day row X ↔ g_sol l P O cur s fld dec ch n (day + 1) row' X := by
  unfold g_sol
  constructor
  · rintro ⟨h1, h2⟩
    refine ⟨h1, ?_⟩
    rw [← hc h1]
    exact h2
  · rintro ⟨h1, h2⟩
    refine ⟨h1, ?_⟩
    rw [← hc h1] at h2
    exact h2
theorem px_tl {rc : sw_St → Int32 → Int32 → Int32 → Int32 → Int32 → Option (Unit × sw_St)} {w : Nat} {l : Nat → Nat → Nat} {P : Nat → List Nat} {O cur s fld n day : Nat} {row : Nat → Nat} (hg : g_ld l P) (hrc : px_TD rc w l P O cur s fld n) (hs6 : s < 6) (hO : O < 1024) (hn : n + 1 ≤ 20) (hr : g_rk cur row) (hf : row 0 < l 0 0) (hd : day + (n + 1) ≤ 999) (hst : g_stays l P day cur row s = false) : ∀ (j fuel i rest kn bt : Nat) (b : Option Nat) (σ : sw_St), px_ts σ w l P O cur s day row b → g_b1 b → g_dc (l 0 1) kn bt → g_rst l O kn bt rest (g_pull l P (fun _ => true) day cur row s) → (∀ k, k < l 0 1 → rest.testBit k = true → (σ.1 56 (10 * (n + 1) + k)).toInt = g_pull l P (fun _ => true) day cur row s k) → i + j = 10 → fb_ct (fun k => rest.testBit k) 10 ≤ j → j < fuel →
    ∃ σ' b', L_X1_tryDays_99 rc fuel σ (nI s) (nI fld) (nI (n + 1)) (nI (10 * (n + 1))) (nI rest) (nI kn) (nI bt) (nI i) = some ((), σ') ∧ px_tf (n + 1) σ σ' ∧ px_ts σ' w l P O cur s day row b' ∧ g_bt b b' (g_sol l P O cur s fld kn bt (n + 1) day row)
  | j, fuel + 1, i, rest, kn, bt, b, σ, h, hb, hdc, hrs, hpu, hi, hct, hfu => by
    have g1 := hg.2.1
    have h2p : 2 ^ l 0 1 ≤ 2 ^ 10 := Nat.pow_le_pow_right (by omega) g1
    have hrl := hrs.1
    by_cases r0 : rest = 0
    · -- it stays
      obtain ⟨σ1, b', p1, p2, p3, p4⟩ := px_t216 hrc hs6 h hr hf hd hb hdc
      refine ⟨σ1, b', ?_, p2, p3, g_bt_eq p4 (fun X => (g_sol_s (fun hX => ?_)).symm)⟩
      · show S_X1_tryDays_99 rc _ σ (nI s) (nI fld) (nI (n + 1)) (nI (10 * (n + 1))) (nI rest) (nI kn) (nI bt) (nI i) = _
        unfold S_X1_tryDays_99
        rw [r0, if_pos (show nI 0 = 0 from rfl), p1]
        split <;> rfl
      · unfold g_step
        rw [g_rst_none (Or.inr (r0 ▸ hrs)) hX]
    · -- the gap that lures most
      have hex : ∃ k, k < 10 ∧ rest.testBit k = true := by
        refine Classical.byContradiction fun hno => r0 ?_
        apply Nat.eq_of_testBit_eq
        intro k
        rw [Nat.zero_testBit]
        by_cases hk : k < 10
        · cases e : rest.testBit k
          · rfl
          · exact absurd ⟨k, hk, e⟩ hno
        · exact g_hi (by omega) (by omega)
      have hpos : 0 < fb_ct (fun k => rest.testBit k) 10 := fb_ct_pos.mpr hex
      obtain ⟨j', hj'⟩ : ∃ j', j = j' + 1 := ⟨j - 1, by omega⟩
      have hmost := px_most (o4 := 56) (N := 210) (fr := 10 * (n + 1)) (Bt := rest) (v := g_pull l P (fun _ => true) day cur row s) hg h.1 (Or.inr ⟨rfl, rfl⟩) (by omega) (by omega) (fun k hk hbit => ⟨hpu k hk hbit, hrs.2.1 k hk hbit⟩)
      cases hgb : (g_best (fun j => if rest.testBit j = true then g_pull l P (fun _ => true) day cur row s j else 0) (l 0 1)).1 with
      | none =>
        exfalso
        obtain ⟨k, hk, hkb⟩ := hex
        have hkl : k < l 0 1 := by
          refine Classical.byContradiction fun hno => ?_
          rw [Nat.testBit_lt_two_pow (Nat.lt_of_lt_of_le hrl (Nat.pow_le_pow_right (n := 2) (by omega) (show l 0 1 ≤ k by omega)))] at hkb
          cases hkb
        obtain ⟨s1, s2, s3, s4⟩ := g_best_sp (fun j => if rest.testBit j = true then g_pull l P (fun _ => true) day cur row s j else 0) (l 0 1)
        rw [hgb] at s1
        have a1 := s4 k hkl
        have a2 := hrs.2.1 k hkl hkb
        (try dsimp only at s1 a1)
        rw [if_pos hkb] at a1
        omega
      | some g =>
        rw [hgb] at hmost
        obtain ⟨gl, gp, gf, gm⟩ := (g_best_ch _ _ _).mp hgb
        have hrg : rest.testBit g = true := by
          cases e : rest.testBit g
          · (try dsimp only at gp)
            rw [e, if_neg (by decide)] at gp
            omega
          · rfl
        have hug := hrs.2.1 g gl hrg
        have hbey : ∃ bb, g_bey l g (row 0) = some bb := by
          unfold g_pull at hug
          cases hbb : g_bey l g (row 0) with
          | none =>
            rw [hbb] at hug
            (try dsimp only at hug)
            omega
          | some bb => exact ⟨bb, rfl⟩
        obtain ⟨bb, hbey⟩ := hbey
        have hchl := g_dc_ch hdc
        have hknl := hdc.1
        obtain ⟨σ1, b1, p1, p2, p3, p4⟩ := px_tthr hg hrc hs6 h hr hf hd hb (g_dc_O (O := O) g1 hdc gl) gl hbey
        have hb1 := g_bt_b1 p4 hb (fun X hX => g_sol_lt g1 hX)
        have eS : S_X1_tryDays_99 rc (fun σ x1 x2 x3 x6 x8 x9 x10 x11 => L_X1_tryDays_99 rc fuel σ x1 x2 x3 x6 x8 x9 x10 x11) σ (nI s) (nI fld) (nI (n + 1)) (nI (10 * (n + 1))) (nI rest) (nI kn) (nI bt) (nI i) = if kn.testBit g = false then L_X1_tryDays_99 rc fuel σ1 (nI s) (nI fld) (nI (n + 1)) (nI (10 * (n + 1))) (nI (rest &&& (1023 ^^^ 2 ^ g))) (nI (kn ||| 2 ^ g)) (nI (bt ||| g_chS O g)) (nI (i + 1)) else some ((), σ1) := by
          unfold S_X1_tryDays_99
          rw [if_neg (show ¬ (10 : Int32) ≤ nI i from nI_ge (b := 10) (by omega) (by omega)), if_neg (nI_ne0 (by omega) (by omega)), hmost]
          dsimp only [Option.bind_some]
          rw [show oI (some g) = nI g from rfl, if_neg (show ¬ nI g = -1 from pz_nm1 (by omega)), pz_shl (by omega), h.2.2.1, g_anN (Nat.lt_of_lt_of_le (Nat.pow_lt_pow_right (by omega) (show g < 10 by omega)) (Nat.le_refl _)), show 2 ^ g &&& (1023 ^^^ O) = g_chO O g from rfl, fa_or, fa_or, p1]
          dsimp only [Option.bind_some]
          rw [p3.2.2.1, fa_and (2 ^ g) O, show 2 ^ g &&& O = g_chS O g from rfl, fa_or, g_anN (show rest < 1024 by omega), nI_1]
          by_cases e : kn.testBit g = false
          · rw [if_pos ((g_and0 (by omega) (by omega)).mpr e), if_pos e]
          · rw [if_neg (fun y => e ((g_and0 (by omega) (by omega)).mp y)), if_neg e]
        by_cases hk : kn.testBit g = false
        · -- both ways
          have hrest' : ∀ k, (rest &&& (1023 ^^^ 2 ^ g)).testBit k = (rest.testBit k && !decide (g = k)) := fun k => by
            rw [Nat.testBit_and]
            by_cases k10 : k < 10
            · rw [g_not10 k10, Nat.testBit_two_pow]
            · rw [g_hi (show rest < 1024 by omega) (by omega)]
              rfl
          have hrs' : g_rst l O (kn ||| 2 ^ g) (bt ||| g_chS O g) (rest &&& (1023 ^^^ 2 ^ g)) (g_pull l P (fun _ => true) day cur row s) := by
            have hbg : bt.testBit g = false := by
              cases e : bt.testBit g
              · rfl
              · rw [hdc.2 g e] at hk
                cases hk
            refine ⟨Nat.lt_of_le_of_lt Nat.and_le_left hrl, fun k hkl hkb => ?_, fun k hkl hku hkb => ?_, fun k hkl hkb hkk => ?_⟩
            · rw [hrest'] at hkb
              exact hrs.2.1 k hkl (pz_ba hkb).1
            · rw [hrest'] at hkb
              rw [g_or2_t, Nat.testBit_or, g_chS_t]
              by_cases e : g = k
              · rw [decide_eq_true e, Bool.or_true, ← e, hbg]
                refine ⟨rfl, ?_⟩
                cases O.testBit g <;> rfl
              · rw [decide_eq_false e, Bool.not_false, Bool.and_true] at hkb
                obtain ⟨y1, y2⟩ := hrs.2.2.1 k hkl hku hkb
                rw [decide_eq_false e, Bool.or_false, Bool.false_and, Bool.or_false]
                exact ⟨y1, y2⟩
            · rw [hrest'] at hkb
              obtain ⟨y1, y2⟩ := (pz_ba hkb)
              have e : ¬ g = k := fun y => by rw [decide_eq_true y] at y2; cases y2
              rw [g_or2_t, decide_eq_false e, Bool.or_false] at hkk
              rw [Nat.testBit_or, g_chS_t, decide_eq_false e, Bool.false_and, Bool.or_false]
              exact hrs.2.2.2 k hkl y1 hkk
          have hcnt : fb_ct (fun k => (rest &&& (1023 ^^^ 2 ^ g)).testBit k) 10 ≤ j' := by
            have u1 := fb_ct_upd (fun k => rest.testBit k) false (show g < 10 by omega)
            (try dsimp only at u1)
            rw [hrg, if_pos rfl, if_neg (by decide)] at u1
            have u2 : fb_ct (fun k => (rest &&& (1023 ^^^ 2 ^ g)).testBit k) 10 = fb_ct (fun k => if k = g then false else rest.testBit k) 10 := fb_ct_cong (fun k _ => by
              (try dsimp only)
              rw [hrest']
              by_cases e : g = k
              · rw [decide_eq_true e, if_pos e.symm, Bool.not_true, Bool.and_false]
              · rw [decide_eq_false e, if_neg (fun y => e y.symm), Bool.not_false, Bool.and_true])
            omega
          obtain ⟨σ2, b2, q1, q2, q3, q4⟩ := px_tl hg hrc hs6 hO hn hr hf hd hst j' fuel (i + 1) (rest &&& (1023 ^^^ 2 ^ g)) (kn ||| 2 ^ g) (bt ||| g_chS O g) b1 σ1 p3 hb1 (g_dc_S hdc gl) hrs' (fun k hkl hkb => by
            rw [hrest'] at hkb
            rw [p2.2.2.2 _ (by omega)]
            exact hpu k hkl (pz_ba hkb).1) (by omega) hcnt (by omega)
          refine ⟨σ2, b2, ?_, p2.up.trans q2, q3, g_bt_tr p4 q4 (fun X => ?_)⟩
          · show S_X1_tryDays_99 rc _ σ (nI s) (nI fld) (nI (n + 1)) (nI (10 * (n + 1))) (nI rest) (nI kn) (nI bt) (nI i) = _
            rw [eS, if_pos hk]
            exact q1
          · have e1 : g_sol l P O cur s fld (kn ||| 2 ^ g) (bt ||| g_chO O g) n (day + 1) (g_pass l row g) X ↔ g_sol l P O cur s fld (kn ||| 2 ^ g) (bt ||| g_chO O g) (n + 1) day row X := (g_sol_s (fun hX => by
              obtain ⟨y1, y2⟩ := (g_con_O g1 hdc gl hk).mp hX
              unfold g_step
              rw [g_rst_pick hrs y1 hst hgb y2])).symm
            rw [e1]
            unfold g_sol
            rw [g_con_O g1 hdc gl hk, g_con_S hdc hk]
            constructor
            · rintro ⟨y1, y2⟩
              cases e : (O ^^^ X).testBit g
              · exact Or.inr ⟨⟨y1, rfl⟩, y2⟩
              · exact Or.inl ⟨⟨y1, rfl⟩, y2⟩
            · rintro (⟨⟨y1, -⟩, y2⟩ | ⟨⟨y1, -⟩, y2⟩)
              · exact ⟨y1, y2⟩
              · exact ⟨y1, y2⟩
        · -- it is open, as decided
          have hk' : kn.testBit g = true := by simpa using hk
          have hop := hrs.2.2.2 g gl hrg hk'
          refine ⟨σ1, b1, ?_, p2.up, p3, g_bt_eq p4 (fun X => ?_)⟩
          · show S_X1_tryDays_99 rc _ σ (nI s) (nI fld) (nI (n + 1)) (nI (10 * (n + 1))) (nI rest) (nI kn) (nI bt) (nI i) = _
            rw [eS, if_neg hk]
          · have e1 : g_sol l P O cur s fld kn bt n (day + 1) (g_pass l row g) X ↔ g_sol l P O cur s fld kn bt (n + 1) day row X := (g_sol_s (fun hX => by
              unfold g_step
              rw [g_rst_pick hrs hX hst hgb (by rw [Nat.testBit_xor, hX.2 g hk']; exact hop)])).symm
            rw [← e1]
            unfold g_sol
            rw [g_con_D g1 gl hk' hop]
theorem px_tdk {w : Nat} {l : Nat → Nat → Nat} {P : Nat → List Nat} {O cur s fld : Nat} (hg : g_ld l P) (hs6 : s < 6) (hO : O < 1024) (hfl : fld < 8) : ∀ (k n : Nat), n ≤ 20 → n < k → px_TD (R_td k) w l P O cur s fld n
  | 0, n, h1, h2 => by omega
  | k + 1, n, h1, h2 => by
    intro σ day dec ch row b h hr hf hd hb hdc
    have g1 := hg.2.1
    have h8 := hg.1
    have h2p : 2 ^ l 0 1 ≤ 2 ^ 10 := Nat.pow_le_pow_right (by omega) g1
    have hchl := g_dc_ch hdc
    have hdl := hdc.1
    obtain ⟨r, f1, f2, f3⟩ := px_isF h.2.2.2.2 hb (show ch < 1024 by omega)
    have eR : R_td (k + 1) σ (nI s) (nI fld) (nI n) (nI dec) (nI ch) = F_X1_tryDays (R_td k) σ (nI s) (nI fld) (nI n) (nI dec) (nI ch) := by rw [R_td]
    rw [eR]
    unfold F_X1_tryDays
    rw [f1]
    dsimp only [Option.bind_some]
    cases r with
    | false =>
      refine ⟨σ, b, by rw [if_pos (show g_ok1 false = 0 from rfl)], px_tf.refl _ _, h, g_bt_rf (fun X hX => ?_)⟩
      obtain ⟨Y, hY, e⟩ := f2 rfl
      exact ⟨Y, hY, g_le2_tr e (g_con_le g1 hdc hX.1)⟩
    | true =>
      rw [if_neg (show ¬ g_ok1 true = 0 from pz_10)]
      match n with
      | 0 =>
        rw [if_neg (show ¬ (0 : Int32) < nI 0 from by decide), if_pos (pz_inb (show s < 6 by omega) (by omega)), nI_clamp (show s < 2 ^ 31 by omega), show σ.1 47 s = nI (row 0) from h.2.1.2.2.2.2.1]
        unfold S_X1_tryDays_37
        have m1 : ∀ v, pz_sm [54] σ (sw_uI σ 54 5 v) := fun v => (pz_sm.refl _ σ).I (by decide) _ _
        have t1 : ∀ v, px_tf 0 σ (sw_uI σ 54 5 v) := fun v => ⟨(m1 v).mono (by decide), fun j hj => by rw [pz_Ik hj], rfl, fun i _ => by rw [pz_Io (by decide)]⟩
        have t2 : ∀ b', px_ts (sw_uI σ 54 5 (oI b')) w l P O cur s day row b' := fun b' => ⟨h.1.mv (m1 _) (by decide), h.2.1.mv (m1 _) (by decide), by rw [pz_Io (by decide)]; exact h.2.2.1, by rw [pz_Io (by decide)]; exact h.2.2.2.1, pz_Ie rfl rfl⟩
        by_cases e : row 0 = fld
        · rw [if_pos (by rw [e])]
          refine ⟨_, some ch, rfl, t1 _, t2 (some ch), Or.inr ⟨ch, ⟨g_con_ch hdc, e⟩, rfl⟩, fun X hX => ⟨ch, rfl, g_con_le g1 hdc hX.1⟩, fun Q hQ => ⟨ch, rfl, f3 rfl Q hQ⟩⟩
        · rw [if_neg (fun y => e (by rw [nI_eq (by omega) (by omega)] at y; exact y)), h.2.2.2.2]
          exact ⟨_, b, rfl, t1 _, t2 b, g_bt_rf (fun X hX => absurd hX.2 e)⟩
      | n + 1 =>
        have hy : dec &&& (1023 ^^^ (O ^^^ ch)) < 1024 := Nat.lt_of_le_of_lt Nat.and_le_left (by omega)
        have hyt : ∀ j, j < 10 → (dec &&& (1023 ^^^ (O ^^^ ch))).testBit j = (dec.testBit j && !(O.testBit j ^^ ch.testBit j)) := fun j hj => by rw [Nat.testBit_and, g_not10 hj, Nat.testBit_xor]
        have em : (nI dec &&& (nI O ^^^ nI ch ^^^ (-1))) ^^^ (-1) = nI (dec &&& (1023 ^^^ (O ^^^ ch))) ^^^ (-1) := by rw [fb_xorI, g_anN (by omega)]
        obtain ⟨σ1, p1, p2, p3, p4, p5, p6⟩ := px_luring (o4 := 56) (N := 210) (fr := 10 * (n + 1)) (x3 := nI (dec &&& (1023 ^^^ (O ^^^ ch))) ^^^ (-1)) (m := fun j => !(dec &&& (1023 ^^^ (O ^^^ ch))).testBit j) (B := []) hg h.1 h.2.1 hr (by omega) hf (by simp) trivial h.2.2.2.1 (Or.inr ⟨rfl, rfl⟩) (by omega) (fun j hj => by
          rw [g_mskN _ hy j hj]
          cases (dec &&& (1023 ^^^ (O ^^^ ch))).testBit j <;> decide)
        have hs1 : px_ts σ1 w l P O cur s day row b := h.mv p4 (by decide) p6
        have tf1 : px_tf (n + 1) σ σ1 := px_tf.of p4 (by decide) (by decide) (fun i hi => p3 i (by omega))
        rw [if_pos (show (0 : Int32) < nI (n + 1) from nI_lt (a := 0) (by omega) (by omega)), h.2.2.1, em, show nI (n + 1) * 10 = nI (10 * (n + 1)) from by rw [show (10 : Int32) = nI 10 from rfl, pk_mul, Nat.mul_comm], p1]
        dsimp only [Option.bind_some]
        have hrc := px_tdk (w := w) (cur := cur) hg hs6 hO hfl k n (by omega) (by omega)
        by_cases hst : g_stays l P day cur row s = true
        · rw [if_pos hst]
          obtain ⟨σ2, b', q1, q2, q3, q4⟩ := px_t216 hrc hs6 hs1 hr hf hd hb hdc
          refine ⟨σ2, b', ?_, tf1.trans q2, q3, g_bt_eq q4 (fun X => (g_sol_s (fun hX => ?_)).symm)⟩
          · obtain ⟨ff, hff⟩ : ∃ ff, sw_fuel = ff + 1 := ⟨sw_fuel - 1, by have := sw_fuel_ge; omega⟩
            rw [hff]
            show S_X1_tryDays_99 (R_td k) _ σ1 (nI s) (nI fld) (nI (n + 1)) (nI (10 * (n + 1))) (nI 0) (nI dec) (nI ch) 0 = _
            unfold S_X1_tryDays_99
            rw [if_pos (show nI 0 = 0 from rfl), q1]
            split <;> rfl
          · unfold g_step
            rw [g_rst_none (Or.inl hst) hX]
        · have hst' : g_stays l P day cur row s = false := by simpa using hst
          rw [if_neg hst]
          have hbl := g_bits_lt (fun j => decide (0 < g_pull l P (fun j => !(dec &&& (1023 ^^^ (O ^^^ ch))).testBit j) day cur row s j)) (l 0 1)
          have hbt : ∀ j, j < l 0 1 → (g_bits (fun j => decide (0 < g_pull l P (fun j => !(dec &&& (1023 ^^^ (O ^^^ ch))).testBit j) day cur row s j)) (l 0 1)).testBit j = decide (0 < if (!(dec.testBit j && !(O.testBit j ^^ ch.testBit j))) = true then g_pull l P (fun _ => true) day cur row s j else 0) := fun j hj => by
            rw [g_bits_at, decide_eq_true hj, Bool.true_and, g_pull_u, hyt j (by omega)]
          have hrs : g_rst l O dec ch (g_bits (fun j => decide (0 < g_pull l P (fun j => !(dec &&& (1023 ^^^ (O ^^^ ch))).testBit j) day cur row s j)) (l 0 1)) (g_pull l P (fun _ => true) day cur row s) := by
            refine ⟨hbl, fun j hj hjb => ?_, fun j hj hju hjb => ?_, fun j hj hjb hjd => ?_⟩
            · rw [hbt j hj] at hjb
              have y := of_decide_eq_true hjb
              split at y
              · exact y
              · omega
            · rw [hbt j hj] at hjb
              have y := of_decide_eq_false hjb
              cases hd1 : dec.testBit j
              · rw [hd1, Bool.false_and, Bool.not_false, if_pos rfl] at y
                exact absurd hju y
              · refine ⟨rfl, ?_⟩
                cases hd2 : (O.testBit j ^^ ch.testBit j)
                · rfl
                · rw [hd1, hd2, Bool.not_true, Bool.and_false, Bool.not_false, if_pos rfl] at y
                  exact absurd hju y
            · rw [hbt j hj] at hjb
              have y := of_decide_eq_true hjb
              cases hd2 : (O.testBit j ^^ ch.testBit j)
              · rw [hjd, hd2, Bool.not_false, Bool.and_true, Bool.not_true, if_neg (by decide)] at y
                omega
              · rfl
          obtain ⟨σ2, b', q1, q2, q3, q4⟩ := px_tl hg hrc hs6 hO (by omega) hr hf hd hst' 10 sw_fuel 0 _ dec ch b σ1 hs1 hb hdc hrs (fun j hj hjb => by
            rw [hbt j hj] at hjb
            have y := of_decide_eq_true hjb
            have y2 : g_pull l P (fun j => !(dec &&& (1023 ^^^ (O ^^^ ch))).testBit j) day cur row s j = if (!(dec.testBit j && !(O.testBit j ^^ ch.testBit j))) = true then g_pull l P (fun _ => true) day cur row s j else 0 := by rw [g_pull_u, hyt j (by omega)]
            rw [p2 hst' j hj (by rw [y2]; exact y), y2]
            split at y
            · next e => rw [if_pos e]
            · omega) (by omega) (fb_ct_le _ _) (by have := sw_fuel_ge; omega)
          exact ⟨σ2, b', q1, tf1.trans q2, q3, q4⟩
theorem px_gaps {σ : sw_St} {s fld n : Nat} {w : Nat} {l : Nat → Nat → Nat} {P : Nat → List Nat} {nm : g_N} {D : g_D} {U : List g_D} {F : List (Nat × Nat × Nat)} {T : List Nat} {sd : Nat} {rf : Nat → Int32} {ft : Int32 × Int32} {im : List Nat} (hG : RG l P nm D U F T sd im) (hs : s < l 0 2) (hfl : fld < l 0 0) (hn : n ≤ 20) (hdn : D.1 0 + n ≤ 999) (h : RX σ w l P nm D U F T sd rf ft im) : ∃ σ' b, F_X1_fewestChanges σ (nI s) (nI fld) (nI n) = some (oI b, σ') ∧ RX σ' w l P nm D U F T sd rf ft im ∧ g_bt none b (g_sol l P (D.1 2) (l 3 (2 * s + 1)) s fld 0 0 n (D.1 0) (D.2.1 s)) := by
  have hg := hG.1
  have hdk := hG.2.2.1
  have h8 := hg.1
  have h6 := hg.2.2.1
  have g1 := hg.2.1
  have h2p : 2 ^ l 0 1 ≤ 2 ^ 10 := Nat.pow_le_pow_right (by omega) g1
  have hoL := hdk.2.2.1
  obtain ⟨hr, hf⟩ := hdk.2.2.2.1 s hs
  obtain ⟨σ1, p1, p2, p3⟩ := px_copyOne (h.2.2.2.1.vw (Or.inl rfl) hs h6)
  have m1 : pz_sm [46, 47, 48, 49, 50, 51, 52, 54] σ (sw_uI σ1 54 5 (-1)) := (p3.mono (by decide)).I (by decide) _ _
  have m1b : pz_sm [54] σ1 (sw_uI σ1 54 5 (-1)) := (pz_sm.refl _ σ1).I (by decide) _ _
  obtain ⟨σ2, b, q1, q2, q3, q4⟩ := px_tdk (w := w) (O := D.1 2) (cur := l 3 (2 * s + 1)) (s := s) (fld := fld) hg (by omega) (by omega) (by omega) sw_depth n hn (by unfold sw_depth; omega) (sw_uI σ1 54 5 (-1)) (D.1 0) 0 0 (D.2.1 s) none ⟨h.1.mv m1 (by decide), p2.mv m1b (by decide), by rw [m1.r (by decide)]; exact h.2.2.2.1.2.2.1, by rw [m1.r (by decide)]; exact h.2.2.2.2.2.2.2.2.2.2.2.1, pz_Ie rfl rfl⟩ hr hf hdn (fun Y hY => by cases hY) ⟨Nat.pow_pos (by omega), fun k hk => by rw [Nat.zero_testBit] at hk; cases hk⟩
  have m2 : pz_sm [34, 35, 36, 46, 47, 48, 49, 50, 51, 52, 54, 56] σ σ2 := (m1.mono (by decide)).trans (q2.1.mono (by decide))
  refine ⟨σ2, b, ?_, ?_, q4⟩
  · unfold F_X1_fewestChanges
    rw [p1]
    dsimp only [Option.bind_some]
    rw [show R_td sw_depth (sw_uI σ1 54 5 (-1)) (nI s) (nI fld) (nI n) 0 0 = _ from q1]
    dsimp only [Option.bind_some]
    rw [q3.2.2.2.2]
  · have e54 : ∀ j, j ≠ 5 → σ2.1 54 j = σ.1 54 j := fun j hj => by rw [q2.2.1 j hj, pz_Ik hj, p3.r (by decide)]
    exact h.gen m2 (by decide) (m2.rR (by decide) 4) (h.2.2.2.1.mv (fun i hi => (m2 _ (by simp; omega)).1)) (h.2.2.2.2.1.mv m2 (by decide)) (h.2.2.2.2.2.1.mv (e54 4 (by decide)) (m2 55 (by decide)).1) (h.2.2.2.2.2.2.1.mv (m2.r (by decide) 1) (m2 1 (by decide)).1) (by rw [m2.r (by decide)]; exact h.2.2.2.2.2.2.2.1) (fun j hj => by rw [m2.r (by decide)]; exact h.2.2.2.2.2.2.2.2.1 j hj) (by rw [m2.r (by decide), m2.r (by decide)]; exact h.2.2.2.2.2.2.2.2.2.1) (h.2.2.2.2.2.2.2.2.2.2.1.mv (m2.r (by decide) 1) (m2 225 (by decide)).1) q3.2.2.2.1 (h.2.2.2.2.2.2.2.2.2.2.2.2.mv (by rw [q2.2.2.1]; exact (p3 54 (by decide)).2.2))

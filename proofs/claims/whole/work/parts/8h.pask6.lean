/-! What a question takes of all sheep: the reference. -/
def pm_sx (S K : List Nat) (τ τ' : sw_St) : Prop := (∀ o, o ≠ 0 → o ∉ S → τ'.1 o = τ.1 o ∧ τ'.2.1 o = τ.2.1 o) ∧ (∀ k, k ∉ K → τ'.1 0 k = τ.1 0 k) ∧ ∀ k, k ≠ 102 → τ'.2.1 0 k = τ.2.1 0 k
theorem pm_sm.sx {S K : List Nat} {τ τ' : sw_St} (h : pm_sm S K τ τ') : pm_sx S K τ τ' := ⟨h.1, h.2.1, fun k _ => by rw [h.2.2]⟩
theorem pm_sx.trans {S K : List Nat} {τ τ1 τ2 : sw_St} (h : pm_sx S K τ τ1) (g : pm_sx S K τ1 τ2) : pm_sx S K τ τ2 :=
  ⟨fun o h0 ho => ⟨(g.1 o h0 ho).1.trans (h.1 o h0 ho).1, (g.1 o h0 ho).2.trans (h.1 o h0 ho).2⟩, fun k hk => (g.2.1 k hk).trans (h.2.1 k hk), fun k hk => (g.2.2 k hk).trans (h.2.2 k hk)⟩
theorem pm_sx.mono {S K S' K' : List Nat} {τ τ' : sw_St} (h : pm_sx S K τ τ') (hs : ∀ x ∈ S, x ∈ S') (hk : ∀ x ∈ K, x ∈ K') : pm_sx S' K' τ τ' :=
  ⟨fun o h0 ho => h.1 o h0 (fun z => ho (hs o z)), fun k hk' => h.2.1 k (fun z => hk' (hk k z)), h.2.2⟩
/-- the same, the long put back -/
def pm_lo (τ τ' : sw_St) : sw_St := (τ'.1, (fun o => if o = 0 then τ.2.1 0 else τ'.2.1 o), τ'.2.2)
theorem pm_sx.lo {S K : List Nat} {τ τ' : sw_St} (h : pm_sx S K τ τ') : pm_sm S K τ (pm_lo τ τ') := by
  refine ⟨fun o h0 ho => ⟨(h.1 o h0 ho).1, ?_⟩, h.2.1, ?_⟩
  · show (if o = 0 then τ.2.1 0 else τ'.2.1 o) = τ.2.1 o
    rw [if_neg h0]
    exact (h.1 o h0 ho).2
  · show (if 0 = 0 then τ.2.1 0 else τ'.2.1 0) = τ.2.1 0
    rw [if_pos rfl]
theorem pm_fin {τ : sw_St} (v : Int64) : (sw_uI (sw_uL τ 0 102 v) 0 103 0).2.1 0 102 = v ∧ (sw_uI (sw_uL τ 0 102 v) 0 103 0).1 0 103 = 0 ∧ pm_sx [] [103] τ (sw_uI (sw_uL τ 0 102 v) 0 103 0) := by
  refine ⟨?_, pz_Ie rfl rfl, ?_⟩
  · show (sw_uL τ 0 102 v).2.1 0 102 = v
    exact pz_Le rfl rfl
  · refine ⟨fun o h0 _ => ⟨?_, ?_⟩, fun k hk => ?_, fun k hk => ?_⟩
    · funext j
      rw [pz_Io h0]
      rfl
    · show (sw_uL τ 0 102 v).2.1 o = τ.2.1 o
      funext j
      rw [pz_Lo h0]
    · rw [pz_Ik (by simpa using hk)]
      rfl
    · show (sw_uL τ 0 102 v).2.1 0 k = τ.2.1 0 k
      rw [pz_Lk hk]
theorem pm_fin0 {τ : sw_St} : (sw_uI τ 0 103 0).2.1 0 102 = τ.2.1 0 102 ∧ (sw_uI τ 0 103 0).1 0 103 = 0 ∧ pm_sx [] [103] τ (sw_uI τ 0 103 0) := ⟨rfl, pz_Ie rfl rfl, ((pm_sm.refl _ _ τ).K (by decide) _).sx⟩
theorem pm_qTakes {τ : sw_St} {kd s : Nat} {y : Int64} (hk : 281 ≤ kd ∧ kd ≤ 286) (hy : kd ≤ 283 → y = 0 ∨ y = 1) (h103 : τ.1 0 103 = if s = 0 then 1 else 0) : ∃ τ', F_X11_qTakes τ (nI (kd - 281)) y (nI s) = some ((), τ') ∧ (τ'.2.1 0 102 = g_qs kd s y (τ.2.1 0 102) ∧ τ'.1 0 103 = 0 ∧ pm_sx [] [103] τ τ') := by
  have k6 : kd = 281 ∨ kd = 282 ∨ kd = 283 ∨ kd = 284 ∨ kd = 285 ∨ kd = 286 := by omega
  have z1 : y = 0 → ¬ lg_cmp y 1 = 0 := fun e z => by
    have := (lg_cmp_eq _ _).mp z
    rw [e] at this
    exact absurd this (by decide)
  have z2 : y = 1 → lg_cmp y 1 = 0 := fun e => (lg_cmp_eq _ _).mpr e
  have n10 : (1 : Int64) ≠ 0 := by decide
  rcases k6 with e | e | e | e | e | e
  · rw [e, g_qs1]
    show ∃ τ', F_X11_qTakes τ 0 y (nI s) = some ((), τ') ∧ _
    unfold F_X11_qTakes S_X11_qTakes_15 S_X11_qTakes_16 S_X11_qTakes_38 S_X11_qTakes_48 S_X11_qTakes_55 S_X11_qTakes_75 S_X11_qTakes_90 S_X11_qTakes_128 S_X11_qTakes_133
    rcases hy (by omega) with y0 | y1
    · rw [if_neg (by decide), if_neg (z1 y0), if_pos rfl, if_pos rfl, if_neg (by decide), if_neg (by decide), if_neg (by decide), if_pos (by decide), if_neg (fun z => z.2 y0)]
      exact ⟨_, rfl, pm_fin0⟩
    · rw [if_neg (by decide), if_pos (z2 y1), if_pos rfl, if_neg (by decide)]
      by_cases c : τ.2.1 0 102 = -1
      · rw [if_pos ((lg_cmp_eq _ _).mpr c), if_neg (by decide), if_neg (by decide), if_pos (by decide), if_pos ⟨c, by rw [y1]; exact n10⟩]
        exact ⟨_, rfl, pm_fin _⟩
      · rw [if_neg (fun z => c ((lg_cmp_eq _ _).mp z)), if_neg (by decide), if_neg (by decide), if_neg (by decide), if_pos (by decide), if_neg (fun z => c z.1)]
        exact ⟨_, rfl, pm_fin0⟩
  · rw [e, g_qs2]
    show ∃ τ', F_X11_qTakes τ 1 y (nI s) = some ((), τ') ∧ _
    unfold F_X11_qTakes S_X11_qTakes_15 S_X11_qTakes_16 S_X11_qTakes_38 S_X11_qTakes_48 S_X11_qTakes_55 S_X11_qTakes_75 S_X11_qTakes_90 S_X11_qTakes_128 S_X11_qTakes_133
    rcases hy (by omega) with y0 | y1
    · rw [if_neg (by decide), if_neg (z1 y0), if_neg (by decide), if_pos rfl, if_pos rfl, if_neg (by decide), if_neg (by decide), if_pos (by decide), if_neg (fun z => z y0)]
      exact ⟨_, rfl, pm_fin0⟩
    · rw [if_neg (by decide), if_pos (z2 y1), if_neg (by decide), if_pos rfl, if_neg (by decide), if_neg (by decide), if_neg (by decide), if_pos (by decide), if_pos (by rw [y1]; exact n10)]
      exact ⟨_, rfl, pm_fin _⟩
  · rw [e, g_qs3 (by omega)]
    show ∃ τ', F_X11_qTakes τ 2 y (nI s) = some ((), τ') ∧ _
    unfold F_X11_qTakes S_X11_qTakes_15 S_X11_qTakes_16 S_X11_qTakes_38 S_X11_qTakes_48 S_X11_qTakes_55 S_X11_qTakes_75 S_X11_qTakes_90 S_X11_qTakes_128 S_X11_qTakes_133
    rcases hy (by omega) with y0 | y1
    · rw [if_neg (by decide), if_neg (z1 y0), if_neg (by decide), if_neg (by decide), if_pos rfl, if_pos rfl, if_neg (by decide), if_pos (by decide), y0, Int64.add_zero]
      exact ⟨_, rfl, pm_fin0⟩
    · rw [if_neg (by decide), if_pos (z2 y1), if_neg (by decide), if_neg (by decide), if_pos rfl, if_neg (by decide), if_neg (by decide), if_pos (by decide), y1]
      exact ⟨_, rfl, pm_fin _⟩
  · rw [e, g_qs3 (by omega)]
    show ∃ τ', F_X11_qTakes τ 3 y (nI s) = some ((), τ') ∧ _
    unfold F_X11_qTakes S_X11_qTakes_15 S_X11_qTakes_16 S_X11_qTakes_38 S_X11_qTakes_48 S_X11_qTakes_55 S_X11_qTakes_75 S_X11_qTakes_90 S_X11_qTakes_128 S_X11_qTakes_133
    rw [if_pos (by decide), if_neg (by decide), if_neg (by decide), if_neg (by decide), if_pos rfl, if_pos (by decide)]
    exact ⟨_, rfl, pm_fin _⟩
  · rw [e, g_qs5]
    show ∃ τ', F_X11_qTakes τ 4 y (nI s) = some ((), τ') ∧ _
    unfold F_X11_qTakes S_X11_qTakes_15 S_X11_qTakes_16 S_X11_qTakes_38 S_X11_qTakes_48 S_X11_qTakes_55 S_X11_qTakes_75 S_X11_qTakes_90 S_X11_qTakes_128 S_X11_qTakes_133
    rw [if_pos (by decide), if_neg (by decide), if_neg (by decide), if_neg (by decide), if_neg (by decide), if_neg (by decide), h103]
    by_cases c : s = 0
    · simp only [c, if_true]
      rw [if_neg (by decide)]
      exact ⟨_, rfl, pm_fin _⟩
    · simp only [c, if_false]
      rw [if_pos trivial, if_pos trivial]
      by_cases c2 : τ.2.1 0 102 < y
      · rw [if_neg (fun z => by have := (lg_cmp_le _ _).mp z; rw [fa_le64] at this; rw [fa_lt64] at c2; omega), if_pos c2]
        exact ⟨_, rfl, pm_fin _⟩
      · rw [if_pos ((lg_cmp_le _ _).mpr (by rw [fa_le64]; rw [fa_lt64] at c2; omega)), if_neg c2]
        exact ⟨_, rfl, pm_fin0⟩
  · rw [e, g_qs6]
    show ∃ τ', F_X11_qTakes τ 5 y (nI s) = some ((), τ') ∧ _
    unfold F_X11_qTakes S_X11_qTakes_15 S_X11_qTakes_16 S_X11_qTakes_38 S_X11_qTakes_48 S_X11_qTakes_55 S_X11_qTakes_75 S_X11_qTakes_90 S_X11_qTakes_128 S_X11_qTakes_133
    rw [if_pos (by decide), if_neg (by decide), if_neg (by decide), if_neg (by decide), if_neg (by decide), if_neg (by decide), h103]
    by_cases c : s = 0
    · simp only [c, if_true]
      rw [if_neg (by decide)]
      exact ⟨_, rfl, pm_fin _⟩
    · simp only [c, if_false]
      rw [if_pos trivial, if_neg (by decide)]
      by_cases c2 : y < τ.2.1 0 102
      · rw [if_neg (fun z => by have := (lg_cmp_ge _ _).mp z; rw [fa_le64] at this; rw [fa_lt64] at c2; omega), if_pos c2]
        exact ⟨_, rfl, pm_fin _⟩
      · rw [if_pos ((lg_cmp_ge _ _).mpr (by rw [fa_le64]; rw [fa_lt64] at c2; omega)), if_neg c2]
        exact ⟨_, rfl, pm_fin0⟩
theorem pm_a235 {l : Nat → Nat → Nat} {P : Nat → List Nat} {D : g_D} {Q : List Nat} {kd t : Nat} (hg : g_ld l P) (hk : 281 ≤ kd ∧ kd ≤ 286) (hD : ∀ s, s < l 0 2 → g_rk (l 3 (2 * s + 1)) (D.2.1 s)) (hd : D.1 0 ≤ 100000) (hty : pe_wt 3 Q [] = some [t]) (ht1 : kd ≤ 283 → t = 1) (hQ : Q.length ≤ 1650) : ∀ (n fuel s : Nat) (τ : sw_St), n < fuel → s + n = l 0 2 → pm_ld τ l P → pm_st τ 37 0 l D → τ.1 0 52 = -1 → (∀ i k, i < l 0 2 → k < l 0 1 → (τ.2.1 40 (10 * i + k)).toInt = g_ql l P (D.1 0) (D.1 2) (l 3 (2 * i + 1)) (D.2.1 i) i k) → pm_cd τ 71 0 Q → τ.1 0 95 = nI Q.length → τ.2.1 0 102 = g_qr kd (g_qv l P D Q) s → τ.1 0 103 = (if s = 0 then 1 else 0) →
    ∃ τ', L_X11_ask_235 fuel τ (nI (kd - 281)) (nI s) = some (g_qr kd (g_qv l P D Q) (l 0 2), τ') ∧ pm_sx [73] [54, 101, 103] τ τ'
  | 0, fuel + 1, s, τ, _, hn, hl, hs, h52, ht, hc, h95, h102, h103 => by
    have h6 := hg.2.2.1
    refine ⟨τ, ?_, (pm_sm.refl _ _ τ).sx⟩
    show S_X11_ask_235 _ τ (nI (kd - 281)) (nI s) = _
    unfold S_X11_ask_235 F_X11_sheepMany
    dsimp only [Option.bind_some]
    rw [hl.2.2.1, if_pos (nI_le (by omega) (by omega)), h102, show s = l 0 2 by omega]
  | n + 1, fuel + 1, s, τ, hf, hn, hl, hs, h52, ht, hc, h95, h102, h103 => by
    have h6 := hg.2.2.1
    have h10 := hg.2.1
    have hfu := sw_fuel_ge
    have hsl : s < l 0 2 := by omega
    have hr := hD s hsl
    have hE := g_qenv (opn := D.1 2) hg hr hd (show s < 6 by omega)
    have ma : pm_sm [73] [54, 101] τ (sw_uI (sw_uI τ 0 54 (nI s)) 0 101 0) := ((pm_sm.refl _ _ τ).K (by decide) _).K (by decide) _
    obtain ⟨y, τb, p1, p2, p3⟩ := pm_qloop (s := s) (t := t) hE hQ Q sw_fuel 0 (sw_uI (sw_uI τ 0 54 (nI s)) 0 101 0) [] [] (by omega) (by omega) (hc.mv (ma.1 71 (by decide) (by decide)).1) (by rw [ma.2.1 95 (by decide)]; exact h95) (fun τ' m => by
      have m2 : pm_sm [73] [54, 101] τ τ' := ma.trans (m.mono (by decide) (by decide))
      have hv' := (hs.vw hl hsl h6 h52).mv m2 (by decide) (by decide)
      have hl' := hl.mv m2 (by unfold pm_LS; decide)
      refine ⟨fun v hv => ?_, fun v y hv1 => ?_⟩
      · exact pm_part (kind := 3) (nI s) hv' hr hd (fun z => by omega) (by omega) (by rw [m.2.1 54 (by decide), pz_Ik (by decide), pz_Ie rfl rfl]) (fun z => by omega) hg.1 (fun z => by omega) hv
      · exact pm_qOf hg hl' hv' hr (fun k hk => by rw [(m2.1 40 (by decide) (by decide)).2]; exact ht s k hsl hk) v y hv1) trivial (by simp) hty trivial (pz_Ie rfl rfl)
    have mb : pm_sm [73] [54, 101] τ τb := ma.trans (p3.mono (by decide) (by decide))
    have ev : g_qv l P D Q s = y := by
      unfold g_qv
      rw [p2]
      exact Int64.ofInt_toInt y
    have hy : kd ≤ 283 → y = 0 ∨ y = 1 := fun z => by
      have h1 := pe_run_ok hE (T := []) (S := []) trivial hty
      rw [p2] at h1
      obtain ⟨v, S1, e, g1, -⟩ := pe_ok_cons h1
      have e2 : y.toInt = v := (List.cons.inj e).1
      rcases g1.2.2 (ht1 z) with q | q
      · exact Or.inl (Int64.toInt_inj.mp (by rw [e2, q]; decide))
      · exact Or.inr (Int64.toInt_inj.mp (by rw [e2, q]; decide))
    obtain ⟨τc, q1, q2, q3, q4⟩ := pm_qTakes (τ := τb) (s := s) (y := y) hk hy (by rw [mb.2.1 103 (by decide)]; exact h103)
    have mc : pm_sx [73] [54, 101, 103] τ τc := (mb.sx.mono (by decide) (by decide)).trans (q4.mono (by decide) (by decide))
    have hlc : pm_ld (pm_lo τ τc) l P := hl.mv mc.lo (by unfold pm_LS; decide)
    obtain ⟨τd, r1, r2⟩ := pm_a235 hg hk hD hd hty ht1 hQ n fuel (s + 1) τc (by omega) (by omega) hlc (hs.mvr (mc.1 37 (by decide) (by decide)).1) (by rw [mc.2.1 52 (by decide)]; exact h52) (fun i k hi hk => by rw [(mc.1 40 (by decide) (by decide)).2]; exact ht i k hi hk) (hc.mv (mc.1 71 (by decide) (by decide)).1) (by rw [mc.2.1 95 (by decide)]; exact h95) (by
      rw [q2, mb.2.2, h102, ← ev]
      rfl) (by rw [q3, if_neg (by omega)])
    refine ⟨τd, ?_, mc.trans r2⟩
    show S_X11_ask_235 _ τ (nI (kd - 281)) (nI s) = _
    unfold S_X11_ask_235 F_X11_sheepMany
    dsimp only [Option.bind_some]
    rw [hl.2.2.1, if_neg (nI_ge hsl (by omega))]
    unfold F_X11_qTold
    rw [show L_X11_qTold_7 sw_fuel (sw_uI (sw_uI τ 0 54 (nI s)) 0 101 0) (nI s) 0 = _ from p1]
    dsimp only [Option.bind_some]
    rw [q1]
    dsimp only [Option.bind_some]
    rw [nI_1]
    exact r1

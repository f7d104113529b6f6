/-! What a question asks of all sheep: the class. -/
def g_qs (kd s : Nat) (v y : Int64) : Int64 :=
  if kd = 281 then (if y = -1 ∧ v ≠ 0 then (nI s).toInt64 else y)
  else if kd = 282 then (if v ≠ 0 then (nI s).toInt64 else y)
  else if kd ≤ 284 then y + v
  else if s = 0 then v
  else if kd = 285 then (if y < v then v else y)
  else (if v < y then v else y)
theorem g_qs1 (s : Nat) (v y : Int64) : g_qs 281 s v y = if y = -1 ∧ v ≠ 0 then (nI s).toInt64 else y := by
  unfold g_qs
  rw [if_pos rfl]
theorem g_qs2 (s : Nat) (v y : Int64) : g_qs 282 s v y = if v ≠ 0 then (nI s).toInt64 else y := by
  unfold g_qs
  rw [if_neg (by decide), if_pos rfl]
theorem g_qs3 {kd : Nat} (hk : kd = 283 ∨ kd = 284) (s : Nat) (v y : Int64) : g_qs kd s v y = y + v := by
  unfold g_qs
  rw [if_neg (by omega), if_neg (by omega), if_pos (by omega)]
theorem g_qs5 (s : Nat) (v y : Int64) : g_qs 285 s v y = if s = 0 then v else if y < v then v else y := by
  unfold g_qs
  rw [if_neg (by decide), if_neg (by decide), if_neg (by decide)]
  split
  · rfl
  · rw [if_pos rfl]
theorem g_qs6 (s : Nat) (v y : Int64) : g_qs 286 s v y = if s = 0 then v else if v < y then v else y := by
  unfold g_qs
  rw [if_neg (by decide), if_neg (by decide), if_neg (by decide)]
  split
  · rfl
  · rw [if_neg (by decide)]
def g_qr (kd : Nat) (V : Nat → Int64) : Nat → Int64
  | 0 => if kd ≤ 282 then -1 else 0
  | s + 1 => g_qs kd s (V s) (g_qr kd V s)
theorem px_w64 (x : Int32) : x.toInt64 = Int64.ofInt x.toInt := by
  rw [← px_wide x, Int64.ofInt_toInt]
theorem px_max64 (σ : sw_St) (y v : Int64) : F_J9_max_f86c9 σ y v = some (if y < v then v else y, σ) := by
  unfold F_J9_max_f86c9 S_J9_max_f86c9_11
  by_cases h : y < v
  · rw [if_pos h, if_pos ((lg_cmp_lt _ _).mpr h)]
  · rw [if_neg h, if_neg (fun z => h ((lg_cmp_lt _ _).mp z))]
theorem px_min64 (σ : sw_St) (y v : Int64) : F_J9_min_f86c9 σ y v = some (if v < y then v else y, σ) := by
  unfold F_J9_min_f86c9 S_J9_min_f86c9_11
  by_cases h : v < y
  · rw [if_pos h, if_pos ((lg_cmp_gt _ _).mpr h)]
  · rw [if_neg h, if_neg (fun z => h ((lg_cmp_gt _ _).mp z))]
def g_qv (l : Nat → Nat → Nat) (P : Nat → List Nat) (D : g_D) (Q : List Nat) (s : Nat) : Int64 := Int64.ofInt ((pe_run (g_env l (D.1 0) (l 3 (2 * s + 1)) (D.2.1 s) s 0 0) (g_qof l P (D.1 0) (D.1 2) (l 3 (2 * s + 1)) (D.2.1 s) s) Q []).headD 0)
theorem px_anloop {w t kd : Nat} {l : Nat → Nat → Nat} {P : Nat → List Nat} {D : g_D} {Q : List Nat} (hg : g_ld l P) (hk : 281 ≤ kd ∧ kd ≤ 286) (hD : ∀ s, s < l 0 2 → g_rk (l 3 (2 * s + 1)) (D.2.1 s)) (hd : D.1 0 ≤ 100000) (ho : D.1 2 < 2 ^ 31) (hty : pe_wt 3 Q [] = some [t]) : ∀ (n fuel s : Nat) (σ : sw_St), n < fuel → s + n = l 0 2 → px_ld σ w l P → px_st σ 38 l D → px_cd σ 5 0 Q → σ.1 4 1 = nI Q.length → σ.1 34 2 = nI 0 →
    ∃ σ', L_X2_answer_26 fuel σ 38 (nI kd) 4 (g_qr kd (g_qv l P D Q) s) (nI s) = some (g_qr kd (g_qv l P D Q) (l 0 2), σ') ∧ pz_sm [34, 35, 36] σ σ' ∧ σ'.1 34 2 = nI 0
  | 0, fuel + 1, s, σ, _, hn, hl, hs, hc, h4, h34 => by
    refine ⟨σ, ?_, pz_sm.refl _ _, h34⟩
    show S_X2_answer_26 _ σ 38 (nI kd) 4 _ (nI s) = _
    have h6 := hg.2.2.1
    unfold S_X2_answer_26
    rw [hl.2.1]
    dsimp only [Option.bind_some]
    rw [if_pos (ld_O hl.1), hl.2.2.2.2.1, if_pos (nI_le (by omega) (by omega)), show s = l 0 2 by omega]
  | n + 1, fuel + 1, s, σ, hf, hn, hl, hs, hc, h4, h34 => by
    have h6 := hg.2.2.1
    obtain ⟨x, σ1, p1, p2, p3, p4⟩ := px_question (t := t) hg hl (hs.vw (Or.inl rfl) (show s < l 0 2 by omega) h6) (hD s (by omega)) hd ho hc h4 hty
    obtain ⟨σ2, q1, q2, q3⟩ := px_anloop hg hk hD hd ho hty n fuel (s + 1) σ1 (by omega) (by omega) (hl.mv p4 (by decide)) (hs.mv (fun j hj => (p4 _ (by simp; omega)).1)) (hc.mv (p4 5 (by decide)).1) (by rw [p4.r (by decide)]; exact h4) p3
    refine ⟨σ2, ?_, p4.trans q2, q3⟩
    have ev : x.toInt64 = g_qv l P D Q s := by
      rw [px_w64, p2]
      rfl
    have e0 : x = 0 ↔ g_qv l P D Q s = 0 := by
      rw [← ev]
      constructor
      · intro z
        rw [z]
        rfl
      · intro z
        have := congrArg Int64.toInt z
        rw [px_wide] at this
        exact Int32.toInt_inj.mp this
    show S_X2_answer_26 _ σ 38 (nI kd) 4 _ (nI s) = _
    rw [← q1]
    show _ = L_X2_answer_26 fuel σ1 38 (nI kd) 4 (g_qs kd s (g_qv l P D Q s) (g_qr kd (g_qv l P D Q) s)) (nI (s + 1))
    generalize g_qr kd (g_qv l P D Q) s = y
    generalize g_qv l P D Q s = V at ev e0
    unfold S_X2_answer_26
    rw [hl.2.1]
    dsimp only [Option.bind_some]
    rw [if_pos (ld_O hl.1), hl.2.2.2.2.1, if_neg (nI_ge (by omega) (by omega)), p1]
    dsimp only [Option.bind_some]
    unfold S_X2_answer_108 S_X2_answer_110 S_X2_answer_128 S_X2_answer_181 S_X2_answer_152 S_X2_answer_176 S_X2_answer_189
    rw [nI_1, ev]
    have k6 : kd = 281 ∨ kd = 282 ∨ kd = 283 ∨ kd = 284 ∨ kd = 285 ∨ kd = 286 := by omega
    rcases k6 with e | e | e | e | e | e
    · rw [e, g_qs1, if_pos (show nI 281 = 281 from rfl)]
      by_cases c1 : y = -1
      · rw [if_pos ((lg_cmp_eq _ _).mpr c1)]
        by_cases c2 : V = 0
        · rw [if_pos (e0.mpr c2), if_neg (fun z => z.2 c2)]
        · rw [if_neg (fun z => c2 (e0.mp z)), if_pos ⟨c1, c2⟩]
      · rw [if_neg (fun z => c1 ((lg_cmp_eq _ _).mp z)), if_neg (fun z => c1 z.1)]
    · rw [e, g_qs2, if_neg (show ¬ nI 282 = 281 by decide), if_pos (show nI 282 = 282 from rfl)]
      by_cases c2 : V = 0
      · rw [if_pos (e0.mpr c2), if_neg (fun z => z c2)]
      · rw [if_neg (fun z => c2 (e0.mp z)), if_pos c2]
    · rw [e, g_qs3 (by omega), if_neg (show ¬ nI 283 = 281 by decide), if_neg (show ¬ nI 283 = 282 by decide), if_pos (show nI 283 = 283 from rfl)]
    · rw [e, g_qs3 (by omega), if_neg (show ¬ nI 284 = 281 by decide), if_neg (show ¬ nI 284 = 282 by decide), if_neg (show ¬ nI 284 = 283 by decide), if_pos (show nI 284 = 284 from rfl)]
    · rw [e, g_qs5, if_neg (show ¬ nI 285 = 281 by decide), if_neg (show ¬ nI 285 = 282 by decide), if_neg (show ¬ nI 285 = 283 by decide), if_neg (show ¬ nI 285 = 284 by decide), if_pos (show nI 285 = 285 from rfl)]
      by_cases c3 : s = 0
      · rw [if_pos (show nI s = 0 by rw [c3]; rfl), if_pos c3]
      · rw [if_neg (show ¬ nI s = 0 from nI_ne0 (by omega) (by omega)), if_neg c3, px_max64]
        rfl
    · rw [e, g_qs6, if_neg (show ¬ nI 286 = 281 by decide), if_neg (show ¬ nI 286 = 282 by decide), if_neg (show ¬ nI 286 = 283 by decide), if_neg (show ¬ nI 286 = 284 by decide), if_neg (show ¬ nI 286 = 285 by decide), if_pos (show nI 286 = 286 from rfl)]
      by_cases c3 : s = 0
      · rw [if_pos (show nI s = 0 by rw [c3]; rfl), if_pos c3]
      · rw [if_neg (show ¬ nI s = 0 from nI_ne0 (by omega) (by omega)), if_neg c3, px_min64]
        rfl
theorem px_answer {σ : sw_St} {w t kd : Nat} {l : Nat → Nat → Nat} {P : Nat → List Nat} {D : g_D} {Q : List Nat} (hg : g_ld l P) (hk : 281 ≤ kd ∧ kd ≤ 286) (hD : ∀ s, s < l 0 2 → g_rk (l 3 (2 * s + 1)) (D.2.1 s)) (hd : D.1 0 ≤ 100000) (ho : D.1 2 < 2 ^ 31) (hty : pe_wt 3 Q [] = some [t]) (hl : px_ld σ w l P) (hs : px_st σ 38 l D) (hc : px_cd σ 5 0 Q) (h4 : σ.1 4 1 = nI Q.length) (h34 : σ.1 34 2 = nI 0) :
    ∃ σ', F_X2_answer σ 38 (nI kd) 4 = some (g_qr kd (g_qv l P D Q) (l 0 2), σ') ∧ pz_sm [34, 35, 36] σ σ' ∧ σ'.1 34 2 = nI 0 := by
  have hfu := sw_fuel_ge
  have h6 := hg.2.2.1
  obtain ⟨σ', p1, p2, p3⟩ := px_anloop hg hk hD hd ho hty (l 0 2) sw_fuel 0 σ (by omega) (by omega) hl hs hc h4 h34
  refine ⟨σ', ?_, p2, p3⟩
  rw [← p1]
  unfold F_X2_answer S_X2_answer_14 S_X2_answer_21
  show _ = L_X2_answer_26 sw_fuel σ 38 (nI kd) 4 (if kd ≤ 282 then -1 else 0) 0
  by_cases c1 : kd = 281
  · rw [c1, if_pos (show nI 281 = 281 from rfl), if_pos (by decide)]
  · by_cases c2 : kd = 282
    · rw [c2, if_neg (show ¬ nI 282 = 281 by decide), if_pos (show nI 282 = 282 from rfl), if_pos (by decide)]
    · rw [if_neg (fun z => c1 (by rw [show (281 : Int32) = nI 281 from rfl, nI_eq (by omega) (by omega)] at z; exact z)), if_neg (fun z => c2 (by rw [show (282 : Int32) = nI 282 from rfl, nI_eq (by omega) (by omega)] at z; exact z)), if_neg (by omega)]

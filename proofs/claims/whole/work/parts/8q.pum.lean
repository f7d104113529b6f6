/-! An upland's text: the reference; names. -/
theorem pm_eq0 {k : Nat} {τ : sw_St} (h : τ.1 0 5 = nI k) (h0 : 0 < k) (h1 : k < 100) : ¬ τ.1 0 5 = 0 := by rw [h]; exact nI_ne0 h0 (by omega)
/-- one of these words is here -/
noncomputable def pm_ch (f0 f1 : sw_St → Option (Int32 × sw_St)) : List (Nat × Nat) → sw_St → Option (Int32 × sw_St)
  | [], σ => f0 σ
  | x :: xs, σ => (F_X11_isHere σ x.1).bind fun q => if q.1 = 0 then pm_ch f0 f1 xs q.2 else f1 q.2
theorem pm_ch_ok {t : Nat → Nat} {N b : Nat} {f0 f1 : sw_St → Option (Int32 × sw_St)} (ht : ∀ i, t i < 256) (hN : N ≤ 1600) (hb : b ≤ N) : ∀ (xs : List (Nat × Nat)) (τ : sw_St), (∀ x ∈ xs, x ∈ pm_ck) → pm_pa τ t N b → ∃ τ', pm_pa τ' t N b ∧ pm_sm [] [2] τ τ' ∧ ((∃ x ∈ xs, tk_k t N b = x.2) → pm_ch f0 f1 xs τ = f1 τ') ∧ ((∀ x ∈ xs, tk_k t N b ≠ x.2) → pm_ch f0 f1 xs τ = f0 τ')
  | [], τ, hx, h => ⟨τ, h, pm_sm.refl _ _ _, fun y => (by obtain ⟨x, hx, -⟩ := y; cases hx), fun _ => rfl⟩
  | x :: xs, τ, hx, h => by
    obtain ⟨τ1, p1, p2, p3⟩ := pm_isHere (h.ps hb) ht hN hb (hx x (by simp))
    have e : pm_ch f0 f1 (x :: xs) τ = (F_X11_isHere τ x.1).bind fun q => if q.1 = 0 then pm_ch f0 f1 xs q.2 else f1 q.2 := rfl
    rw [e, p1]
    dsimp only [Option.bind_some]
    by_cases c : tk_k t N b = x.2
    · rw [decide_eq_true c, if_neg (show ¬ g_ok1 true = 0 from pz_10)]
      exact ⟨τ1, p2, p3, fun _ => rfl, fun y => absurd c (y x (by simp))⟩
    · rw [decide_eq_false c, if_pos (show g_ok1 false = 0 from rfl)]
      obtain ⟨τ2, q1, q2, q3, q4⟩ := pm_ch_ok ht hN hb xs τ1 (fun y hy => hx y (by simp [hy])) p2
      refine ⟨τ2, q1, p3.trans q2, fun y => q3 ?_, fun y => q4 (fun z hz => y z (by simp [hz]))⟩
      obtain ⟨z, hz, ez⟩ := y
      rcases List.mem_cons.mp hz with e2 | e2
      · rw [e2] at ez
        exact absurd ez c
      · exact ⟨z, e2, ez⟩
theorem pm_own1 : ∀ σ : sw_St, S_X11_isOwnHere_315 σ = some (1, σ) ∧ S_X11_isOwnHere_294 σ = some (1, σ) ∧ S_X11_isOwnHere_218 σ = some (1, σ) ∧ S_X11_isOwnHere_142 σ = some (1, σ) ∧ S_X11_isOwnHere_66 σ = some (1, σ) := fun σ => by
  have h1 : S_X11_isOwnHere_315 σ = some (1, σ) := by
    unfold S_X11_isOwnHere_315 S_X11_isOwnHere_320
    rw [if_pos (Or.inr rfl)]
  have h2 : S_X11_isOwnHere_294 σ = some (1, σ) := by
    unfold S_X11_isOwnHere_294 S_X11_isOwnHere_299
    rw [if_neg pz_10]
    exact h1
  have h3 : S_X11_isOwnHere_218 σ = some (1, σ) := by
    unfold S_X11_isOwnHere_218 S_X11_isOwnHere_223
    rw [if_neg pz_10]
    exact h2
  have h4 : S_X11_isOwnHere_142 σ = some (1, σ) := by
    unfold S_X11_isOwnHere_142 S_X11_isOwnHere_147
    rw [if_neg pz_10]
    exact h3
  refine ⟨h1, h2, h3, h4, ?_⟩
  unfold S_X11_isOwnHere_66 S_X11_isOwnHere_71
  rw [if_neg pz_10]
  exact h4
theorem pm_isOwn {τ : sw_St} {t : Nat → Nat} {N b : Nat} (h : pm_pa τ t N b) (ht : ∀ i, t i < 256) (hN : N ≤ 1600) (hb : b ≤ N) : ∃ τ', F_X11_isOwnHere τ = some (g_ok1 (decide (256 ≤ tk_k t N b ∧ tk_k t N b ≤ 280)), τ') ∧ pm_pa τ' t N b ∧ pm_sm [] [2] τ τ' := by
  have e1 : ∀ σ, F_X11_isOwnHere σ = pm_ch (fun σ => S_X11_isOwnHere_71 σ 0) S_X11_isOwnHere_66 [(3, 256), (4, 257), (5, 258), (6, 259), (7, 260), (8, 261)] σ := fun σ => rfl
  have e2 : ∀ σ, S_X11_isOwnHere_71 σ 0 = pm_ch (fun σ => S_X11_isOwnHere_147 σ 0) S_X11_isOwnHere_142 [(9, 262), (10, 263), (11, 264), (12, 265), (13, 266), (14, 267)] σ := fun σ => by
    unfold S_X11_isOwnHere_71
    rw [if_pos rfl]
    rfl
  have e3 : ∀ σ, S_X11_isOwnHere_147 σ 0 = pm_ch (fun σ => S_X11_isOwnHere_223 σ 0) S_X11_isOwnHere_218 [(15, 268), (16, 269), (17, 270), (18, 271), (19, 272), (20, 273)] σ := fun σ => by
    unfold S_X11_isOwnHere_147
    rw [if_pos rfl]
    rfl
  have e4 : ∀ σ, S_X11_isOwnHere_223 σ 0 = pm_ch (fun σ => S_X11_isOwnHere_299 σ 0) S_X11_isOwnHere_294 [(21, 274), (22, 275), (23, 276), (24, 277), (25, 278), (26, 279)] σ := fun σ => by
    unfold S_X11_isOwnHere_223
    rw [if_pos rfl]
    rfl
  have e5 : ∀ σ, S_X11_isOwnHere_299 σ 0 = pm_ch (fun σ => S_X11_isOwnHere_320 σ 0) S_X11_isOwnHere_315 [(27, 280)] σ := fun σ => by
    unfold S_X11_isOwnHere_299
    rw [if_pos rfl]
    rfl
  have e6 : ∀ σ, S_X11_isOwnHere_320 σ 0 = some (0, σ) := fun σ => by
    unfold S_X11_isOwnHere_320
    rw [if_pos (Or.inl rfl)]
  obtain ⟨τ1, p1, p2, p3, p4⟩ := pm_ch_ok (f0 := fun σ => S_X11_isOwnHere_71 σ 0) (f1 := S_X11_isOwnHere_66) ht hN hb [(3, 256), (4, 257), (5, 258), (6, 259), (7, 260), (8, 261)] τ (by decide) h
  obtain ⟨τ2, q1, q2, q3, q4⟩ := pm_ch_ok (f0 := fun σ => S_X11_isOwnHere_147 σ 0) (f1 := S_X11_isOwnHere_142) ht hN hb [(9, 262), (10, 263), (11, 264), (12, 265), (13, 266), (14, 267)] τ1 (by decide) p1
  obtain ⟨τ3, r1, r2, r3, r4⟩ := pm_ch_ok (f0 := fun σ => S_X11_isOwnHere_223 σ 0) (f1 := S_X11_isOwnHere_218) ht hN hb [(15, 268), (16, 269), (17, 270), (18, 271), (19, 272), (20, 273)] τ2 (by decide) q1
  obtain ⟨τ4, s1, s2, s3, s4⟩ := pm_ch_ok (f0 := fun σ => S_X11_isOwnHere_299 σ 0) (f1 := S_X11_isOwnHere_294) ht hN hb [(21, 274), (22, 275), (23, 276), (24, 277), (25, 278), (26, 279)] τ3 (by decide) r1
  obtain ⟨τ5, u1, u2, u3, u4⟩ := pm_ch_ok (f0 := fun σ => S_X11_isOwnHere_320 σ 0) (f1 := S_X11_isOwnHere_315) ht hN hb [(27, 280)] τ4 (by decide) s1
  rw [e1]
  by_cases c1 : 256 ≤ tk_k t N b ∧ tk_k t N b ≤ 261
  · refine ⟨τ1, ?_, p1, p2⟩
    rw [p3 (by
      have c : tk_k t N b = 256 ∨ tk_k t N b = 257 ∨ tk_k t N b = 258 ∨ tk_k t N b = 259 ∨ tk_k t N b = 260 ∨ tk_k t N b = 261 := by omega
      simpa using c), (pm_own1 τ1).2.2.2.2, decide_eq_true (show 256 ≤ tk_k t N b ∧ tk_k t N b ≤ 280 by omega)]
    rfl
  rw [p4 (by simp; omega), e2]
  by_cases c2 : 262 ≤ tk_k t N b ∧ tk_k t N b ≤ 267
  · refine ⟨τ2, ?_, q1, p2.trans q2⟩
    rw [q3 (by
      have c : tk_k t N b = 262 ∨ tk_k t N b = 263 ∨ tk_k t N b = 264 ∨ tk_k t N b = 265 ∨ tk_k t N b = 266 ∨ tk_k t N b = 267 := by omega
      simpa using c), (pm_own1 τ2).2.2.2.1, decide_eq_true (show 256 ≤ tk_k t N b ∧ tk_k t N b ≤ 280 by omega)]
    rfl
  rw [q4 (by simp; omega), e3]
  by_cases c3 : 268 ≤ tk_k t N b ∧ tk_k t N b ≤ 273
  · refine ⟨τ3, ?_, r1, (p2.trans q2).trans r2⟩
    rw [r3 (by
      have c : tk_k t N b = 268 ∨ tk_k t N b = 269 ∨ tk_k t N b = 270 ∨ tk_k t N b = 271 ∨ tk_k t N b = 272 ∨ tk_k t N b = 273 := by omega
      simpa using c), (pm_own1 τ3).2.2.1, decide_eq_true (show 256 ≤ tk_k t N b ∧ tk_k t N b ≤ 280 by omega)]
    rfl
  rw [r4 (by simp; omega), e4]
  by_cases c4 : 274 ≤ tk_k t N b ∧ tk_k t N b ≤ 279
  · refine ⟨τ4, ?_, s1, ((p2.trans q2).trans r2).trans s2⟩
    rw [s3 (by
      have c : tk_k t N b = 274 ∨ tk_k t N b = 275 ∨ tk_k t N b = 276 ∨ tk_k t N b = 277 ∨ tk_k t N b = 278 ∨ tk_k t N b = 279 := by omega
      simpa using c), (pm_own1 τ4).2.1, decide_eq_true (show 256 ≤ tk_k t N b ∧ tk_k t N b ≤ 280 by omega)]
    rfl
  rw [s4 (by simp; omega), e5]
  refine ⟨τ5, ?_, u1, (((p2.trans q2).trans r2).trans s2).trans u2⟩
  by_cases c5 : tk_k t N b = 280
  · rw [u3 (by simpa using c5), (pm_own1 τ5).1, decide_eq_true (show 256 ≤ tk_k t N b ∧ tk_k t N b ≤ 280 by omega)]
    rfl
  · rw [u4 (by simpa using c5), e6, decide_eq_false (show ¬ (256 ≤ tk_k t N b ∧ tk_k t N b ≤ 280) by omega)]
    rfl
theorem tk_nm_s (t : Nat → Nat) (s k : Nat) : tk_nm t s (k + 1) = tk_nm t s k ++ [t (s + k) - 96] := by
  unfold tk_nm
  rw [List.range_succ, List.map_append]
  rfl
theorem pm_nm58 {t : Nat → Nat} {N s : Nat} (ht : ∀ i, t i < 256) (hN : N ≤ 1600) (hs : s ≤ N) : ∀ (n fuel p : Nat) (τ : sw_St), pm_tx τ t N → τ.1 0 5 = 0 → τ.1 0 2 = nI p → τ.1 0 36 = nI s → p + n = tk_w (tk_le t) N s → s ≤ p → p ≤ s + 6 → n < fuel →
    (tk_w (tk_le t) N s ≤ s + 6 → ∃ τ', L_X11_name_58 fuel τ (lN (g_nr (tk_nm t s (p - s)))) = some (lN (g_nr (tk_nm t s (tk_w (tk_le t) N s - s))), τ') ∧ τ'.1 0 2 = nI (tk_w (tk_le t) N s) ∧ τ'.1 0 4 = nI (tk_w (tk_le t) N s) ∧ pm_sm [] [2, 4] τ τ') ∧ (s + 6 < tk_w (tk_le t) N s → ∃ τ', L_X11_name_58 fuel τ (lN (g_nr (tk_nm t s (p - s)))) = some (0, τ') ∧ pm_bad τ' 1 (s + 6) ∧ pm_sm [] [2, 5, 6] τ τ')
  | n, fuel + 1, p, τ, h, h5, h2, h36, hp, hsp, hp6, hf => by
    have sp := tk_w_sp (tk_le t) N _ s (Nat.le_refl _) hs
    have e0 : L_X11_name_58 (fuel + 1) τ (lN (g_nr (tk_nm t s (p - s)))) = S_X11_name_58 (fun σ y1 => L_X11_name_58 fuel σ y1) τ (lN (g_nr (tk_nm t s (p - s)))) := rfl
    rw [e0]
    unfold S_X11_name_58 S_X11_name_145
    match n with
    | 0 =>
      have hpe : p = tk_w (tk_le t) N s := by omega
      refine ⟨fun _ => ⟨sw_uI τ 0 4 (nI p), ?_, by rw [pz_Ik (by decide), h2, hpe], by rw [pz_Ie rfl rfl, hpe], (pm_sm.refl _ _ τ).K (by decide) _⟩, fun y => by omega⟩
      rw [← hpe]
      by_cases c : p < N
      · rw [h.2.1, h2, if_neg (nI_ge c (by omega)), if_pos (pz_inb (by omega) (by omega)), nI_clamp (by omega), h.1 p c, pm_isLeN ht]
        dsimp only [Option.bind_some]
        rw [show tk_le t p = false from by rw [hpe]; exact sp.2.2.1 (by omega), if_pos (show g_ok1 false = 0 from rfl), h2]
      · rw [h.2.1, h2, if_pos (nI_le (by omega) (by omega))]
    | n + 1 =>
      have hpN : p < N := by omega
      have hdp := sp.2.2.2 p hsp (by omega)
      have hd2 := of_decide_eq_true hdp
      rw [h.2.1, h2, if_neg (nI_ge hpN (by omega)), if_pos (pz_inb (by omega) (by omega)), nI_clamp (by omega), h.1 p hpN, pm_isLeN ht, hdp]
      dsimp only [Option.bind_some]
      rw [if_neg (show ¬ g_ok1 true = 0 from pz_10), h2, h36, show nI p - nI s = nI (p - s) from pk_sub (by omega)]
      by_cases c6 : p - s = 6
      · refine ⟨fun y => by omega, fun _ => ?_⟩
        obtain ⟨τ2, q1, q2, q3⟩ := pm_failN (τ := τ) (kd := 1) (pl := s + 6) h5
        rw [if_pos (show nI (p - s) = 6 from by rw [c6]; rfl), show p = s + 6 by omega, show F_X11_fail τ 1 (nI (s + 6)) = _ from q1]
        exact ⟨τ2, rfl, q2, q3.mono (by decide) (by decide)⟩
      · have m1 : pm_sm [] [2] τ (sw_uI τ 0 2 (nI (p + 1))) := (pm_sm.refl _ _ τ).K (by decide) _
        obtain ⟨i1, i2⟩ := pm_nm58 ht hN hs n fuel (p + 1) (sw_uI τ 0 2 (nI (p + 1))) (h.mv m1 (by simp) (by decide)) (by rw [pz_Ik (by decide)]; exact h5) (pz_Ie rfl rfl) (by rw [pz_Ik (by decide)]; exact h36) (by omega) (by omega) (by omega) (by omega)
        rw [if_neg (show ¬ nI (p - s) = 6 from fun y => c6 ((nI_eq (b := 6) (by omega) (by omega)).mp y)), if_pos (pz_inb (by omega) (by omega)), nI_clamp (by omega), h.1 p hpN, nI_1, show (27 : Int64) * lN (g_nr (tk_nm t s (p - s))) + (nI (t p)).toInt64 - 97 + 1 = lN (g_nr (tk_nm t s (p + 1 - s))) from by
          rw [show (27 : Int64) = lN 27 from rfl, lN_mul, nI_l (by omega), lN_add, show (97 : Int64) = lN 97 from rfl, lN_sub (by omega), lN_1, show p + 1 - s = p - s + 1 by omega, tk_nm_s, g_nr_snoc, show s + (p - s) = p by omega]
          congr 1
          omega]
        refine ⟨fun y => ?_, fun y => ?_⟩
        · obtain ⟨τ', r1, r2, r3, r4⟩ := i1 y
          exact ⟨τ', r1, r2, r3, (m1.mono (by decide) (by decide)).trans r4⟩
        · obtain ⟨τ', r1, r2, r3⟩ := i2 y
          exact ⟨τ', r1, r2, (m1.mono (by decide) (by decide)).trans r3⟩
theorem pm_name {τ : sw_St} {t : Nat → Nat} {N b : Nat} (h : pm_ps τ t N b) (ht : ∀ i, t i < 256) (hN : N ≤ 1600) (hb : b ≤ N) :
    (∀ r, tk_name t N b = .ok r → ∃ τ', F_X11_name τ = some (lN (g_nr r.1), τ') ∧ pm_ps τ' t N r.2 ∧ pm_lx τ τ' ∧ τ'.1 0 36 = nI (tk_s t N b)) ∧ (∀ e, tk_name t N b = .error e → ∃ τ', F_X11_name τ = some (0, τ') ∧ pm_bad τ' e.1 e.2 ∧ pm_lx τ τ' ∧ 0 < e.1 ∧ e.1 < 100) := by
  obtain ⟨τ1, p1, p2, p3⟩ := pm_look h ht hN hb
  have hs := tk_s_sp t hb
  have hes := tk_e_sp t hb
  have hkl := tk_k_lt ht N b
  have no : ∀ τ2, pm_pa τ2 t N b → pm_sm [] [2] τ τ2 → ∃ τ', S_X11_name_37 τ2 = some (0, τ') ∧ pm_bad τ' 1 (tk_s t N b) ∧ pm_lx τ τ' := fun τ2 k2 k3 => by
    obtain ⟨τ3, q1, q2, q3⟩ := pm_failN (τ := τ2) (kd := 1) (pl := tk_s t N b) k2.2.2.1
    refine ⟨τ3, ?_, q2, pm_sm.trans (k3.mono (by decide) (by decide)) (q3.mono (by decide) (by decide))⟩
    unfold S_X11_name_37
    rw [k2.2.1, show F_X11_fail τ2 1 (nI (tk_s t N b)) = _ from q1]
    rfl
  have eF : F_X11_name τ = if g_ok1 (decide (tk_s t N b < N) && tk_le t (tk_s t N b)) = 0 then S_X11_name_37 τ1 else (if (τ1.1 0 2) = (τ1.1 0 4) then S_X11_name_37 τ1 else ((F_X11_isOwnHere τ1).bind fun q3 => if q3.1 = 0 then (L_X11_name_58 sw_fuel (sw_uI q3.2 0 36 (q3.2.1 0 2)) 0) else (S_X11_name_37 q3.2))) := by
    unfold F_X11_name
    rw [if_pos h.2.2.1, p1]
    dsimp only [Option.bind_some]
    rw [pm_isLeC ht]
    rfl
  have bad : ∀ τ2, pm_pa τ2 t N b → pm_sm [] [2] τ τ2 → F_X11_name τ = S_X11_name_37 τ2 → ¬ (281 ≤ tk_k t N b ∧ tk_k t N b ≤ 287) → ((∀ r, tk_name t N b = .ok r → ∃ τ', F_X11_name τ = some (lN (g_nr r.1), τ') ∧ pm_ps τ' t N r.2 ∧ pm_lx τ τ' ∧ τ'.1 0 36 = nI (tk_s t N b)) ∧ (∀ e, tk_name t N b = .error e → ∃ τ', F_X11_name τ = some (0, τ') ∧ pm_bad τ' e.1 e.2 ∧ pm_lx τ τ' ∧ 0 < e.1 ∧ e.1 < 100)) := fun τ2 k2 k3 e c => by
    unfold tk_name
    rw [if_neg c, e]
    refine ⟨fun r hr => (by cases hr), fun e he => ?_⟩
    rw [← Except.error.inj he]
    obtain ⟨τ', q1, q2, q3⟩ := no τ2 k2 k3
    exact ⟨τ', q1, q2, q3, Nat.one_pos, (by omega : 1 < 100)⟩
  cases hc : (decide (tk_s t N b < N) && tk_le t (tk_s t N b)) with
  | false =>
    refine bad τ1 p2 p3 (by rw [eF, hc, if_pos (show g_ok1 false = 0 from rfl)]) (fun y => ?_)
    obtain ⟨k1, k2, -, -⟩ := tk_281 ht y
    rw [decide_eq_true k1, k2] at hc
    cases hc
  | true =>
    obtain ⟨hc1, hc2⟩ := pz_ba hc
    have hc1 := of_decide_eq_true hc1
    rw [hc, if_neg (show ¬ g_ok1 true = 0 from pz_10)] at eF
    cases hg : tk_gl t b (tk_s t N b) with
    | true =>
      refine bad τ1 p2 p3 (by rw [eF, if_pos ((pm_glue p2 hb hN).mpr hg)]) (fun y => ?_)
      obtain ⟨-, -, -, k4⟩ := tk_281 ht y
      rw [hg] at k4
      cases k4
    | false =>
      rw [if_neg (fun y => by rw [(pm_glue p2 hb hN).mp y] at hg; cases hg)] at eF
      obtain ⟨τ2, q1, q2, q3⟩ := pm_isOwn p2 ht hN hb
      rw [q1] at eF
      dsimp only [Option.bind_some] at eF
      have m2 := p3.trans q3
      by_cases c : 281 ≤ tk_k t N b ∧ tk_k t N b ≤ 287
      · rw [decide_eq_false (show ¬ (256 ≤ tk_k t N b ∧ tk_k t N b ≤ 280) by omega), if_pos (show g_ok1 false = 0 from rfl), q2.2.1] at eF
        obtain ⟨k1, k2, k3, k4⟩ := tk_281 ht c
        have m3 : pm_sm [] [36] τ2 (sw_uI τ2 0 36 (nI (tk_s t N b))) := (pm_sm.refl _ _ τ2).K (by decide) _
        obtain ⟨i1, i2⟩ := pm_nm58 ht hN hs.2.1 (tk_e t N b - tk_s t N b) sw_fuel (tk_s t N b) (sw_uI τ2 0 36 (nI (tk_s t N b))) (q2.1.mv m3 (by simp) (by decide)) (by rw [pz_Ik (by decide)]; exact q2.2.2.1) (by rw [pz_Ik (by decide)]; exact q2.2.1) (pz_Ie rfl rfl) (by rw [k3]; have := (tk_w_sp (tk_le t) N _ (tk_s t N b) (Nat.le_refl _) (by omega)).1; omega) (Nat.le_refl _) (by omega) (by have := sw_fuel_ge; omega)
        rw [← k3] at i1 i2
        have e58 : F_X11_name τ = L_X11_name_58 sw_fuel (sw_uI τ2 0 36 (nI (tk_s t N b))) (lN (g_nr (tk_nm t (tk_s t N b) (tk_s t N b - tk_s t N b)))) := by
          rw [eF, Nat.sub_self]
          rfl
        rw [e58]
        unfold tk_name
        rw [if_pos c]
        have m23 : pm_lx τ (sw_uI τ2 0 36 (nI (tk_s t N b))) := pm_sm.trans (m2.mono (by decide) (by decide)) (m3.mono (by decide) (by decide))
        by_cases c1 : tk_e t N b - tk_s t N b ≤ 6
        · rw [if_pos c1]
          obtain ⟨τ', r1, r2, r3, r4⟩ := i1 (by omega)
          refine ⟨fun r hr => ?_, fun e he => (by cases he)⟩
          rw [← Except.ok.inj hr]
          have m34 : pm_lx τ τ' := pm_sm.trans m23 (r4.mono (by decide) (by decide))
          refine ⟨τ', r1, ⟨(q2.1.mv m3 (by simp) (by decide)).mv r4 (by simp) (by decide), ⟨tk_e t N b, Nat.le_refl _, (tk_s_sp t hes.2.1).1, r2⟩, by rw [r4.2.1 5 (by decide), pz_Ik (by decide)]; exact q2.2.2.1, pm_en_al r3 (tk_al_of hb k1 (Or.inl k2))⟩, m34, by rw [r4.2.1 36 (by decide), pz_Ie rfl rfl]⟩
        · rw [if_neg c1]
          obtain ⟨τ', r1, r2, r3⟩ := i2 (by omega)
          refine ⟨fun r hr => (by cases hr), fun e he => ?_⟩
          rw [← Except.error.inj he]
          exact ⟨τ', r1, r2, pm_sm.trans m23 (r3.mono (by decide) (by decide)), Nat.one_pos, (by omega : 1 < 100)⟩
      · have ck : 256 ≤ tk_k t N b ∧ tk_k t N b ≤ 280 := by
          have hk : tk_k t N b = tk_ix t (tk_s t N b) (tk_e t N b) tk_wd 256 := by
            unfold tk_k
            rw [if_pos hc1, if_pos hc2, hg, if_neg (by decide)]
          have := tk_ix_le t (tk_s t N b) (tk_e t N b) tk_wd 256 (by decide)
          omega
        refine bad τ2 q2 m2 (by rw [eF, decide_eq_true ck, if_neg (show ¬ g_ok1 true = 0 from pz_10)]) c
/-! dead walks: a fault is told -/
theorem pm_nameD {τ : sw_St} (h : ¬ τ.1 0 5 = 0) : F_X11_name τ = some (0, τ) := by unfold F_X11_name; rw [if_neg h]
theorem pm_asksD {τ : sw_St} {o : Nat} (h : ¬ τ.1 0 5 = 0) : F_X11_asks τ o = some ((), τ) := by unfold F_X11_asks S_X11_asks_24; rw [if_neg h]
theorem pm_asksSgD {τ : sw_St} {x : Int32} (h : ¬ τ.1 0 5 = 0) : F_X11_asksSign τ x = some ((), τ) := by unfold F_X11_asksSign S_X11_asksSign_24; rw [if_neg h]
theorem pm_numberD {τ : sw_St} {x y : Int32} (h : ¬ τ.1 0 5 = 0) : F_X11_number τ x y = some (0, τ) := by unfold F_X11_number; rw [if_neg h]
/-- the rows of names in the reference's first halves -/
def pu_N (τ : sw_St) (u : g_U) : Prop := τ.1 28 0 = nI (u.1 0 0) ∧ τ.1 28 1 = nI (u.1 0 2) ∧ (∀ f, f < u.1 0 0 → τ.2.1 29 f = lN (g_nr (u.2.2.1 0 f))) ∧ ∀ s, s < u.1 0 2 → τ.2.1 29 (8 + s) = lN (g_nr (u.2.2.1 1 s))
theorem pu_N.mv {τ τ' : sw_St} {u : g_U} {K : List Nat} (h : pu_N τ u) (m : pm_sm [] K τ τ') : pu_N τ' u := by
  have r28 := (m.1 28 (by decide) (by simp)).1
  have r29 := (m.1 29 (by decide) (by simp)).2
  unfold pu_N
  rw [r28, r29]
  exact h
theorem g_nr_lt0 {L : List Nat} (h : g_nk L) : g_nr L < 2 ^ 31 := by
  have := g_nr_lt31 h (Nat.le_refl L.length)
  rwa [List.take_length] at this
/-- behind a fault nothing is told -/
theorem pm_nw15D {r n : Nat} {y : Int64} {c7 : sw_St → Int64 → Int32 → Option (Int64 × sw_St)} (hr : r < 8) (hn : n ≤ 8) : ∀ (k fuel i : Nat) (τ : sw_St), ¬ τ.1 0 5 = 0 → τ.1 28 r = nI n → i + k = n → k < fuel → L_X11_newName_15 c7 fuel τ y (nI r) (nI i) = c7 τ y (nI (r + 1))
  | 0, fuel + 1, i, τ, h5, h1, hi, hf => by
    show S_X11_newName_15 c7 _ τ y (nI r) (nI i) = _
    unfold S_X11_newName_15
    rw [if_pos (pz_inb (by omega) (by omega)), nI_clamp (by omega), h1, if_pos (nI_le (by omega) (by omega)), nI_1]
  | k + 1, fuel + 1, i, τ, h5, h1, hi, hf => by
    show S_X11_newName_15 c7 _ τ y (nI r) (nI i) = _
    unfold S_X11_newName_15 S_X11_newName_59
    rw [if_pos (pz_inb (by omega) (by omega)), nI_clamp (by omega), h1, if_neg (nI_ge (by omega) (by omega)), if_neg h5, nI_1]
    exact pm_nw15D hr hn k fuel (i + 1) τ h5 h1 (by omega) (by omega)
theorem pm_nw15 {u : g_U} {v : List Nat} {r : Nat} {n : Nat} {pl : Nat} {c7 : sw_St → Int64 → Int32 → Option (Int64 × sw_St)} {nm : Nat → List Nat} (hr : r = 0 ∧ n = u.1 0 0 ∨ r = 1 ∧ n = u.1 0 2) (hn8 : n ≤ 8) (hv : g_nk v) (hk : ∀ f, f < n → g_nk (nm f)) : ∀ (k fuel i : Nat) (τ : sw_St), τ.1 28 r = nI n → (∀ f, f < n → τ.2.1 29 (8 * r + f) = lN (g_nr (nm f))) → τ.1 0 36 = nI pl → i + k = n → k < fuel →
    (τ.1 0 5 = 0 → g_fi (fun f => decide (nm f = v)) k i = none → L_X11_newName_15 c7 fuel τ (lN (g_nr v)) (nI r) (nI i) = c7 τ (lN (g_nr v)) (nI (r + 1))) ∧ (τ.1 0 5 = 0 → g_fi (fun f => decide (nm f = v)) k i ≠ none → ∃ τ', L_X11_newName_15 c7 fuel τ (lN (g_nr v)) (nI r) (nI i) = c7 τ' (lN (g_nr v)) (nI (r + 1)) ∧ pm_bad τ' 3 pl ∧ pm_sm [] [5, 6] τ τ')
  | 0, fuel + 1, i, τ, h1, h2, h36, hi, hf => by
    have e0 : L_X11_newName_15 c7 (fuel + 1) τ (lN (g_nr v)) (nI r) (nI i) = c7 τ (lN (g_nr v)) (nI (r + 1)) := by
      show S_X11_newName_15 c7 _ τ (lN (g_nr v)) (nI r) (nI i) = _
      unfold S_X11_newName_15
      rw [if_pos (pz_inb (by omega) (by omega)), nI_clamp (by omega), h1, if_pos (nI_le (by omega) (by omega)), nI_1]
    exact ⟨fun _ _ => e0, fun _ y => absurd rfl y⟩
  | k + 1, fuel + 1, i, τ, h1, h2, h36, hi, hf => by
    have b1 := g_nr_lt0 (hk i (by omega))
    have b2 := g_nr_lt0 hv
    have e0 : τ.1 0 5 = 0 → L_X11_newName_15 c7 (fuel + 1) τ (lN (g_nr v)) (nI r) (nI i) = if nm i = v then ((F_X11_fail τ 3 (nI pl)).bind fun q3 => L_X11_newName_15 c7 fuel q3.2 (lN (g_nr v)) (nI r) (nI (i + 1))) else L_X11_newName_15 c7 fuel τ (lN (g_nr v)) (nI r) (nI (i + 1)) := fun h5 => by
      show S_X11_newName_15 c7 _ τ (lN (g_nr v)) (nI r) (nI i) = _
      unfold S_X11_newName_15 S_X11_newName_59
      rw [if_pos (pz_inb (by omega) (by omega)), nI_clamp (show r < 2 ^ 31 by omega), h1, if_neg (nI_ge (by omega) (by omega)), if_pos h5, show (8 : Int32) * nI r + nI i = nI (8 * r + i) from by rw [show (8 : Int32) = nI 8 from rfl, pk_mul, nI_add], if_pos (pz_inb (by omega) (by omega)), nI_clamp (by omega), h2 i (by omega), nI_1, h36]
      by_cases c : nm i = v
      · rw [if_pos c, if_pos ((lg_cmp_eq _ _).mpr (by rw [c]))]
      · rw [if_neg c, if_neg (fun y => c (g_nr_inj (hk i (by omega)) hv ((lN_eq (by omega) (by omega)).mp ((lg_cmp_eq _ _).mp y))))]
    refine ⟨fun h5 hn => ?_, fun h5 hn => ?_⟩
    · have c : ¬ nm i = v := fun y => by
        have := g_fi_none hn i (by omega) (by omega)
        rw [decide_eq_true y] at this
        cases this
      rw [e0 h5, if_neg c]
      unfold g_fi at hn
      rw [if_neg (by simpa using c)] at hn
      exact (pm_nw15 hr hn8 hv hk k fuel (i + 1) τ h1 h2 h36 (by omega) (by omega)).1 h5 hn
    · rw [e0 h5]
      by_cases c : nm i = v
      · rw [if_pos c]
        obtain ⟨τ2, q1, q2, q3⟩ := pm_failN (τ := τ) (kd := 3) (pl := pl) h5
        refine ⟨τ2, ?_, q2, q3⟩
        rw [show F_X11_fail τ 3 (nI pl) = _ from q1]
        dsimp only [Option.bind_some]
        exact pm_nw15D (by omega) hn8 k fuel (i + 1) τ2 (pm_eq0 q2.1 (by omega) (by omega)) (by rw [q3.r (by decide) (by decide)]; exact h1) (by omega) (by omega)
      · rw [if_neg c]
        unfold g_fi at hn
        rw [if_neg (by simpa using c)] at hn
        exact (pm_nw15 hr hn8 hv hk k fuel (i + 1) τ h1 h2 h36 (by omega) (by omega)).2 h5 hn

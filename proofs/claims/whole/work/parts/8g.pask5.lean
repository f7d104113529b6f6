/-! What a question asks of: the reference. -/
theorem pm_in64 (τ : sw_St) (y : Int64) {x : Int32} {n : Nat} (hn : n < 2 ^ 30) (hx : x = nI n) : F_X11_isIn τ y 0 ((x - 1).toInt64) = some (if 0 ≤ y.toInt ∧ y.toInt < n then 1 else 0, τ) := by
  have e : (nI n - 1).toInt = (n : Int) - 1 := by
    have := pk_sub_toInt (a := n) (b := 1) hn (by omega)
    exact this
  rw [pm_isIn, px_wide, hx, e, show (0 : Int64).toInt = 0 from by decide]
  congr 2
  by_cases h : 0 ≤ y.toInt ∧ y.toInt < n
  · rw [if_pos (show 0 ≤ y.toInt ∧ y.toInt ≤ (n : Int) - 1 by omega), if_pos h]
  · rw [if_neg (show ¬ (0 ≤ y.toInt ∧ y.toInt ≤ (n : Int) - 1) by omega), if_neg h]
theorem pm_y32 {y : Int64} {n : Nat} (hn : n < 2 ^ 30) (h : 0 ≤ y.toInt ∧ y.toInt < n) : y.toInt32 = nI y.toInt.toNat := by
  apply Int32.toInt_inj.mp
  rw [px_toI (by omega) (by omega), nI_toInt (by omega)]
  omega
/-- the lures as the table has them -/
def g_ql (l : Nat → Nat → Nat) (P : Nat → List Nat) (day opn cur : Nat) (row : Nat → Nat) (s k : Nat) : Int := if opn.testBit k = true then (match g_bey l k (row 0) with | some b => g_lure l P day cur row s k b | none => 0) else 0
theorem pm_qOf {τ : sw_St} {l : Nat → Nat → Nat} {P : Nat → List Nat} {day opn cur s : Nat} {row : Nat → Nat} (hg : g_ld l P) (hl : pm_ld τ l P) (hv : pm_vw τ l day cur row s) (hr : g_rk cur row) (ht : ∀ k, k < l 0 1 → (τ.2.1 40 (10 * s + k)).toInt = g_ql l P day opn cur row s k) (v : Nat) (y : Int64) (hv1 : v ≤ 1) : ∃ z, F_X11_qOf τ (nI v) y (nI s) = some (z, τ) ∧ z.toInt = g_qof l P day opn cur row s v y.toInt := by
  have h8 := hg.1
  have h10 := hg.2.1
  have hs := hv.1
  have hy0 : (0 : Int64).toInt = 0 := by decide
  unfold F_X11_qOf S_X11_qOf_41 S_X11_qOf_67
  by_cases hv0 : v = 0
  · rw [if_pos (by rw [hv0]; rfl)]
    unfold F_X11_isField F_X11_fieldMany
    dsimp only [Option.bind_some]
    rw [pm_in64 τ y (n := l 0 0) (by omega) hl.1]
    dsimp only [Option.bind_some]
    by_cases c : 0 ≤ y.toInt ∧ y.toInt < l 0 0
    · rw [if_pos c, if_pos (Or.inr rfl)]
      dsimp only [Option.bind_some]
      rw [if_neg pz_10, pm_y32 (by omega) c, pm_seenOf hs (by omega)]
      dsimp only [Option.bind_some]
      have e1 := hv.2.2.1 (4 + y.toInt.toNat) (by omega)
      have e2 := hr.2.2.2.2.2 y.toInt.toNat (by omega)
      refine ⟨_, rfl, ?_⟩
      rw [px_wide, show 16 + 12 * s + y.toInt.toNat = 12 + 12 * s + (4 + y.toInt.toNat) by omega, e1, nI_toInt (by omega)]
      unfold g_qof
      rw [if_neg (by omega), if_pos hv0, if_pos (by omega)]
    · rw [if_neg c, if_pos (Or.inl rfl)]
      dsimp only [Option.bind_some]
      rw [if_pos rfl]
      refine ⟨_, rfl, ?_⟩
      rw [hy0]
      unfold g_qof
      by_cases c1 : y.toInt < 0
      · rw [if_pos c1]
      · rw [if_neg c1, if_pos hv0, if_neg (by omega)]
  · rw [if_neg (show ¬ nI v = 0 from nI_ne0 (by omega) (by omega))]
    unfold F_X11_isGap F_X11_gapMany
    dsimp only [Option.bind_some]
    rw [pm_in64 τ y (n := l 0 1) (by omega) hl.2.1]
    dsimp only [Option.bind_some]
    by_cases c : 0 ≤ y.toInt ∧ y.toInt < l 0 1
    · rw [if_pos c, if_pos (Or.inr rfl)]
      dsimp only [Option.bind_some]
      rw [if_neg pz_10, pm_y32 (by omega) c, show (10 : Int32) * nI s = nI (10 * s) from by rw [show (10 : Int32) = nI 10 from rfl, pk_mul], nI_add, if_pos (pz_inb (by omega) (by omega)), nI_clamp (by omega)]
      refine ⟨_, rfl, ?_⟩
      rw [ht _ (by omega)]
      unfold g_qof g_ql
      rw [if_neg (show ¬ y.toInt < 0 by omega), if_neg hv0]
      by_cases c2 : (opn.testBit y.toInt.toNat) = true
      · rw [if_pos c2, if_pos ⟨by omega, c2⟩]
        cases g_bey l y.toInt.toNat (row 0) <;> rfl
      · rw [if_neg c2, if_neg (fun z => c2 z.2)]
    · rw [if_neg c, if_pos (Or.inl rfl)]
      dsimp only [Option.bind_some]
      rw [if_pos rfl]
      refine ⟨_, rfl, ?_⟩
      rw [hy0]
      unfold g_qof
      by_cases c1 : y.toInt < 0
      · rw [if_pos c1]
      · rw [if_neg c1, if_neg hv0, if_neg (fun z => by omega)]
/-- the lures of one sheep -/
theorem pm_alur {l : Nat → Nat → Nat} {P : Nat → List Nat} {day opn cur s : Nat} {row : Nat → Nat} (hg : g_ld l P) (hr : g_rk cur row) (hd : day ≤ 100000) (c167 : sw_St → Int32 → Int32 → Option (Int64 × sw_St)) (x1 : Int32) : ∀ (n fuel k : Nat) (τ : sw_St), n < fuel → k + n = l 0 1 → pm_ld τ l P → pm_op τ l (fun k => opn.testBit k) → pm_vw τ l day cur row s → (∀ j, j < k → (τ.2.1 40 (10 * s + j)).toInt = g_ql l P day opn cur row s j) →
    ∃ τ', L_X11_ask_177 c167 fuel τ x1 (nI s) (nI k) = c167 τ' x1 (nI (s + 1)) ∧ pm_sm [40, 73] [48, 54, 55, 56, 101] τ τ' ∧ (∀ j, j < l 0 1 → (τ'.2.1 40 (10 * s + j)).toInt = g_ql l P day opn cur row s j) ∧ ∀ i, i < 10 * s → τ'.2.1 40 i = τ.2.1 40 i
  | 0, fuel + 1, k, τ, _, hn, hl, ho, hv, ht => by
    have h10 := hg.2.1
    refine ⟨τ, ?_, pm_sm.refl _ _ _, fun j hj => ht j (by omega), fun _ _ => rfl⟩
    show S_X11_ask_177 c167 _ τ x1 (nI s) (nI k) = _
    unfold S_X11_ask_177 F_X11_gapMany
    dsimp only [Option.bind_some]
    rw [hl.2.1, if_pos (nI_le (by omega) (by omega)), nI_1]
  | n + 1, fuel + 1, k, τ, hf, hn, hl, ho, hv, ht => by
    have h10 := hg.2.1
    have hs := hv.1
    have hk : k < l 0 1 := by omega
    -- what is written
    have key : ∃ y τ1, ((F_X11_beyond τ (nI s) (nI k)).bind fun q2 => if q2.1 = (-1) then (S_X11_ask_215 c167 (fun σ x1 x2 x3 => L_X11_ask_177 c167 fuel σ x1 x2 x3) q2.2 x1 (nI s) (nI k) 0 ((10 * nI s) + nI k)) else ((F_X11_luresOf q2.2 (nI s) (nI k)).bind fun q3 => S_X11_ask_215 c167 (fun σ x1 x2 x3 => L_X11_ask_177 c167 fuel σ x1 x2 x3) q3.2 x1 (nI s) (nI k) q3.1 ((10 * nI s) + nI k))) = S_X11_ask_215 c167 (fun σ x1 x2 x3 => L_X11_ask_177 c167 fuel σ x1 x2 x3) τ1 x1 (nI s) (nI k) y ((10 * nI s) + nI k) ∧ y.toInt = g_ql l P day opn cur row s k ∧ pm_sm [73] [48, 54, 55, 56, 101] τ τ1 := by
      rw [pm_beyond hg hl ho hv hr hk]
      dsimp only [Option.bind_some]
      by_cases c : opn.testBit k = true
      · rw [if_pos c]
        cases hb : g_bey l k (row 0) with
        | none =>
          refine ⟨0, τ, by rw [if_pos (show oI none = -1 from rfl)], ?_, pm_sm.refl _ _ _⟩
          unfold g_ql
          rw [if_pos c, hb]
          show (0 : Int64).toInt = 0
          decide
        | some b =>
          have hb8 := g_bey_lt hg hk hb
          obtain ⟨y, τ1, p1, p2, p3⟩ := pm_lures hg hl ho hv hr hd hk c hb
          refine ⟨y, τ1, ?_, ?_, p3⟩
          · rw [if_neg (show ¬ oI (some b) = -1 from pz_nm1 (by omega)), p1]
            rfl
          · unfold g_ql
            rw [if_pos c, hb, p2]
      · rw [if_neg c]
        refine ⟨0, τ, by rw [if_pos (show oI none = -1 from rfl)], ?_, pm_sm.refl _ _ _⟩
        unfold g_ql
        rw [if_neg c]
        decide
    obtain ⟨y, τ1, p1, p2, p3⟩ := key
    have m2 : pm_sm [40, 73] [48, 54, 55, 56, 101] τ (sw_uL τ1 40 (10 * s + k) y) := (p3.mono (by decide) (by decide)).L (by decide) (by decide) _ _
    have e40 : τ1.2.1 40 = τ.2.1 40 := (p3.1 40 (by decide) (by decide)).2
    obtain ⟨τ2, q1, q2, q3, q4⟩ := pm_alur hg hr hd c167 x1 n fuel (k + 1) (sw_uL τ1 40 (10 * s + k) y) (by omega) (by omega) (hl.mv m2 (by unfold pm_LS; decide)) (fun j hj => by rw [m2.r (by decide) (by decide)]; exact ho j hj) (hv.mv m2 (by decide) (by decide)) (fun j hj => by
      by_cases e : j = k
      · rw [e, pz_Le rfl rfl]
        exact p2
      · rw [pz_Lk (by omega), e40]
        exact ht j (by omega))
    refine ⟨τ2, ?_, m2.trans q2, q3, fun i hi => by rw [q4 i hi, pz_Lk (by omega), e40]⟩
    show S_X11_ask_177 c167 _ τ x1 (nI s) (nI k) = _
    unfold S_X11_ask_177 F_X11_gapMany
    dsimp only [Option.bind_some]
    rw [hl.2.1, if_neg (nI_ge hk (by omega)), p1]
    unfold S_X11_ask_215
    rw [show (10 : Int32) * nI s = nI (10 * s) from by rw [show (10 : Int32) = nI 10 from rfl, pk_mul], nI_add, if_pos (pz_inb (by omega) (by omega)), nI_clamp (by omega), nI_1]
    exact q1
/-- the lures of all sheep -/
theorem pm_aall {l : Nat → Nat → Nat} {P : Nat → List Nat} {D : g_D} (hg : g_ld l P) (hD : ∀ s, s < l 0 2 → g_rk (l 3 (2 * s + 1)) (D.2.1 s)) (hd : D.1 0 ≤ 100000) (x1 : Int32) : ∀ (n fuel s : Nat) (τ : sw_St), n < fuel → s + n = l 0 2 → pm_ld τ l P → pm_st τ 37 0 l D → τ.1 0 52 = -1 → (∀ i k, i < s → k < l 0 1 → (τ.2.1 40 (10 * i + k)).toInt = g_ql l P (D.1 0) (D.1 2) (l 3 (2 * i + 1)) (D.2.1 i) i k) →
    ∃ τ', L_X11_ask_167 fuel τ x1 (nI s) = L_X11_ask_235 sw_fuel (sw_uI τ' 0 48 3) x1 0 ∧ pm_sm [40, 73] [48, 54, 55, 56, 101] τ τ' ∧ ∀ i k, i < l 0 2 → k < l 0 1 → (τ'.2.1 40 (10 * i + k)).toInt = g_ql l P (D.1 0) (D.1 2) (l 3 (2 * i + 1)) (D.2.1 i) i k
  | 0, fuel + 1, s, τ, _, hn, hl, hs, h52, ht => by
    have h6 := hg.2.2.1
    refine ⟨τ, ?_, pm_sm.refl _ _ _, fun i k hi hk => ht i k (by omega) hk⟩
    show S_X11_ask_167 _ τ x1 (nI s) = _
    unfold S_X11_ask_167 F_X11_sheepMany
    dsimp only [Option.bind_some]
    rw [hl.2.2.1, if_pos (nI_le (by omega) (by omega))]
  | n + 1, fuel + 1, s, τ, hf, hn, hl, hs, h52, ht => by
    have h6 := hg.2.2.1
    have h10 := hg.2.1
    have hfu := sw_fuel_ge
    have hsl : s < l 0 2 := by omega
    obtain ⟨τ1, p1, p2, p3, p4⟩ := pm_alur (opn := D.1 2) hg (hD s hsl) hd (fun σ x1 x2 => L_X11_ask_167 fuel σ x1 x2) x1 (l 0 1) sw_fuel 0 τ (by omega) (by omega) hl hs.op (hs.vw hl hsl h6 h52) (fun j hj => by omega)
    obtain ⟨τ2, q1, q2, q3⟩ := pm_aall hg hD hd x1 n fuel (s + 1) τ1 (by omega) (by omega) (hl.mv p2 (by unfold pm_LS; decide)) (hs.mvr (p2.1 37 (by decide) (by decide)).1) (by rw [p2.2.1 52 (by decide)]; exact h52) (fun i k hi hk => by
      by_cases e : i = s
      · rw [e]
        exact p3 k hk
      · rw [p4 _ (by omega)]
        exact ht i k (by omega) hk)
    refine ⟨τ2, ?_, p2.trans q2, q3⟩
    show S_X11_ask_167 _ τ x1 (nI s) = _
    unfold S_X11_ask_167 F_X11_sheepMany
    dsimp only [Option.bind_some]
    rw [hl.2.2.1, if_neg (nI_ge hsl (by omega)), show L_X11_ask_177 (fun σ x1 x2 => L_X11_ask_167 fuel σ x1 x2) sw_fuel τ x1 (nI s) 0 = _ from p1]
    exact q1

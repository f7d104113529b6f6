/-! Which gap is best told of. -/
def g_m1 (j : Nat) : Int32 := if j = 0 then -1 else nI (j - 1)
theorem g_m1_s (j : Nat) : g_m1 (j + 1) = nI j := by
  unfold g_m1
  rw [if_neg (by omega)]
  rfl
theorem g_m1_1 (j : Nat) : g_m1 j + 1 = g_m1 (j + 1) := by
  rw [g_m1_s]
  unfold g_m1
  by_cases h : j = 0
  · rw [if_pos h, h]
    decide
  · rw [if_neg h, nI_1, show j - 1 + 1 = j by omega]
theorem g_m1_toInt {j : Nat} (hj : j < 2 ^ 31) : (g_m1 j).toInt = (j : Int) - 1 := by
  unfold g_m1
  by_cases h : j = 0
  · rw [if_pos h, h]
    decide
  · rw [if_neg h, nI_toInt (by omega)]
    omega
theorem g_m1_le {a j : Nat} (ha : a < 2 ^ 31) (hj : j < 2 ^ 31) : nI a ≤ g_m1 j ↔ a + 1 ≤ j := by
  rw [fa_le, g_m1_toInt hj, nI_toInt ha]
  omega
theorem g_m1_lt {a j : Nat} (ha : a < 2 ^ 31) (hj : j < 2 ^ 31) : g_m1 j < nI a ↔ j ≤ a := by
  rw [fa_lt, g_m1_toInt hj, nI_toInt ha]
  omega
def g_st (j : Nat) : Nat := if j = 0 then 0 else 2 ^ (j - 1)
theorem g_st_lt {j : Nat} (h : j ≤ 10) : g_st j < 1024 := by
  unfold g_st
  by_cases e : j = 0
  · rw [if_pos e]
    omega
  · rw [if_neg e]
    have := Nat.pow_lt_pow_right (a := 2) (by omega) (show j - 1 < 10 by omega)
    omega
def g_rb (v : Nat → Nat) : Nat → Nat → Nat → Nat → Nat × Nat
  | 0, _, b, w => (b, w)
  | n + 1, j, b, w => if w ≤ v j then g_rb v n (j + 1) j (v j + 1) else g_rb v n (j + 1) b w
theorem g_go_rk {l : Nat → Nat → Nat} {P : Nat → List Nat} {op : Nat → Bool} {cur s : Nat} (hg : g_ld l P) : ∀ (n day : Nat) (row : Nat → Nat), g_rk cur row → row 0 < l 0 0 → g_rk cur (g_go l P op cur s n day row) ∧ g_go l P op cur s n day row 0 < l 0 0
  | 0, _, _, hr, hf => ⟨hr, hf⟩
  | n + 1, day, _, hr, hf => g_go_rk hg n (day + 1) _ (g_step_rk hg hr) (g_step_f hg hf)
theorem g_sw_le {v : Nat → Nat} {M : Nat} : ∀ n k a, (∀ i, i < k + n → v i ≤ M) → g_sw v n k a ≤ a + n * M
  | 0, _, a, _ => by
    unfold g_sw
    omega
  | n + 1, k, a, h => by
    unfold g_sw
    have h1 := g_sw_le (v := v) (M := M) n (k + 1) (a + v k) (fun i hi => h i (by omega))
    have h2 := h k (by omega)
    rw [Nat.succ_mul]
    omega
/-- the wool of sheep s behind n days, when gap j is told of -/
def g_rv (l : Nat → Nat → Nat) (P : Nat → List Nat) (D : g_D) (n j s : Nat) : Nat := g_go l P (fun k => (D.1 2 ^^^ g_st j).testBit k) (l 3 (2 * s + 1)) s n (D.1 0) (D.2.1 s) 1
def g_rs (l : Nat → Nat → Nat) (P : Nat → List Nat) (D : g_D) (n j : Nat) : Nat := g_sw (g_rv l P D n j) (l 0 2) 0 0
theorem g_rs_le {l : Nat → Nat → Nat} {P : Nat → List Nat} {D : g_D} {n j : Nat} (hg : g_ld l P) (hd : g_dk l D) : g_rs l P D n j ≤ 6000 := by
  have h := g_sw_le (v := g_rv l P D n j) (M := 999) (l 0 2) 0 0 (fun i hi => (g_go_rk hg n (D.1 0) _ (hd.2.2.2.1 i (by omega)).1 (hd.2.2.2.1 i (by omega)).2).1.2.2.1)
  have h6 := hg.2.2.1
  have := Nat.mul_le_mul_right 999 h6
  unfold g_rs
  omega
/-- the class: all sheep one behind the other -/
theorem px_rin {x2 x3 x4 : Int32} {n j : Nat} {c8 : sw_St → Int32 → Int32 → Int32 → Int32 → Int32 → Option (Int32 × sw_St)} {w : Nat} {l : Nat → Nat → Nat} {P : Nat → List Nat} {nm : g_N} {D : g_D} {U : List g_D} {F : List (Nat × Nat × Nat)} {T : List Nat} {sd : Nat} {rf : Nat → Int32} {ft : Int32 × Int32} {im : List Nat} (hg : g_ld l P) (hd : g_dk l D) (hn : n ≤ 40) (hdn : D.1 0 + n ≤ 999) (hj : j ≤ l 0 1) : ∀ (k fuel s acc : Nat) (σ : sw_St), RX σ w l P nm D U F T sd rf ft im → s + k = l 0 2 → k < fuel →
    ∃ σ', L_X1_bestRumour_29 c8 fuel σ (nI n) x2 x3 x4 (g_m1 j) (nI acc) (nI s) = (if nI (g_sw (g_rv l P D n j) k s acc) ≤ x4 then c8 σ' (nI n) x2 x3 x4 (g_m1 (j + 1)) else c8 σ' (nI n) x2 (g_m1 j) (nI (g_sw (g_rv l P D n j) k s acc)) (g_m1 (j + 1))) ∧ RX σ' w l P nm D U F T sd rf ft im
  | 0, fuel + 1, s, acc, σ, h, hk, hf => by
    have h6 := hg.2.2.1
    refine ⟨σ, ?_, h⟩
    show S_X1_bestRumour_29 c8 _ σ (nI n) x2 x3 x4 (g_m1 j) (nI acc) (nI s) = _
    unfold S_X1_bestRumour_29 S_X1_bestRumour_141
    rw [h.1.2.1]
    dsimp only [Option.bind]
    rw [if_pos (ld_O h.1.1), h.1.2.2.2.2.1, if_pos (nI_le (by omega) (by omega)), g_m1_1]
    rfl
  | k + 1, fuel + 1, s, acc, σ, h, hk, hf => by
    have h6 := hg.2.2.1
    have h10 := hg.2.1
    have hs : s < l 0 2 := by omega
    obtain ⟨hr, hf0⟩ := hd.2.2.2.1 s hs
    have h2p : 2 ^ l 0 1 ≤ 2 ^ 10 := Nat.pow_le_pow_right (by omega) h10
    have hoL := hd.2.2.1
    have hO : D.1 2 ^^^ g_st j < 1024 := Nat.xor_lt_two_pow (n := 10) (by omega) (g_st_lt (by omega))
    obtain ⟨σ1, p1, p2, p3⟩ := px_copyOne (h.2.2.2.1.vw (Or.inl rfl) hs h6)
    have m2 : pz_sm [46, 47, 48, 49, 50, 51, 52] σ (sw_uI σ1 46 2 (nI (D.1 2 ^^^ g_st j))) := p3.I (by decide) _ _
    have p2' : px_vw (sw_uI σ1 46 2 (nI (D.1 2 ^^^ g_st j))) 46 (D.1 0) (D.1 2 ^^^ g_st j) (l 3 (2 * s + 1)) (D.2.1 s) s := by
      obtain ⟨a1, a2, a3, a4, a5, a6, a7, a8, a9, a10⟩ := p2
      refine ⟨a1, a2, ?_, pz_Ie rfl rfl, ?_, ?_, ?_, ?_, ?_, fun f hf => ?_⟩
      · rw [pz_Ik (by decide)]
        exact a3
      · rw [pz_Io (by decide)]
        exact a5
      · rw [pz_Io (by decide)]
        exact a6
      · rw [pz_Io (by decide)]
        exact a7
      · rw [pz_Io (by decide)]
        exact a8
      · rw [pz_Io (by decide)]
        exact a9
      · rw [pz_Io (by decide)]
        exact a10 f hf
    obtain ⟨σ2, q1, q2, q3, q4, q5⟩ := px_goOn (B := []) (N := n) hg hO (by simp) (by omega) n sw_fuel 0 (D.1 0) (D.2.1 s) _ (h.1.mv m2 (by decide)) p2' hr hf0 trivial (by rw [m2.r (by decide)]; exact h.2.2.2.2.2.2.2.2.2.2.2.1) (by omega) (by have := sw_fuel_ge; omega) hdn
    have h' := h.mv ((m2.mono (by decide)).trans (q3.mono (by decide))) q5
    obtain ⟨σ3, r1, r2⟩ := px_rin (x2 := x2) (x3 := x3) (x4 := x4) (c8 := c8) hg hd hn hdn hj k fuel (s + 1) (acc + g_rv l P D n j s) σ2 h' (by omega) (by omega)
    refine ⟨σ3, ?_, r2⟩
    have e38 : σ1.1 38 2 = nI (D.1 2) := by rw [p3.r (by decide)]; exact h.2.2.2.1.2.2.1
    have e89 : S_X1_bestRumour_89 c8 (fun σ x1 x2 x3 x4 x5 x6 x7 => L_X1_bestRumour_29 c8 fuel σ x1 x2 x3 x4 x5 x6 x7) σ1 (nI n) x2 x3 x4 (g_m1 j) (nI acc) (nI s) (nI (D.1 2 ^^^ g_st j)) = L_X1_bestRumour_29 c8 fuel σ2 (nI n) x2 x3 x4 (g_m1 j) (nI (acc + g_rv l P D n j s)) (nI (s + 1)) := by
      unfold S_X1_bestRumour_89 F_X2_goOn
      rw [show (0 : Int32) = nI 0 from rfl, q1]
      dsimp only [Option.bind]
      rw [if_pos (pz_inb (by omega) (by omega)), nI_clamp (by omega), show σ2.1 48 s = _ from q2.2.2.2.2.2.1, nI_add, nI_1]
      rfl
    rw [show g_sw (g_rv l P D n j) (k + 1) s acc = g_sw (g_rv l P D n j) k (s + 1) (acc + g_rv l P D n j s) from rfl, ← r1, ← e89]
    show S_X1_bestRumour_29 c8 _ σ (nI n) x2 x3 x4 (g_m1 j) (nI acc) (nI s) = _
    unfold S_X1_bestRumour_29
    rw [h.1.2.1]
    dsimp only [Option.bind]
    rw [if_pos (ld_O h.1.1), h.1.2.2.2.2.1, if_neg (nI_ge hs (by omega)), p1]
    dsimp only
    rw [e38]
    by_cases e : j = 0
    · rw [if_pos (show g_m1 j = -1 from by rw [e]; rfl)]
      rw [show D.1 2 ^^^ g_st j = D.1 2 from by rw [e]; exact Nat.xor_zero _]
    · have e1 : g_m1 j = nI (j - 1) := by unfold g_m1; rw [if_neg e]
      have e2 : g_st j = 2 ^ (j - 1) := by unfold g_st; rw [if_neg e]
      rw [if_neg (show ¬ g_m1 j = -1 from by rw [e1]; exact pz_nm1 (by omega)), show (1 : Int32) <<< (g_m1 j &&& 31) = nI (2 ^ (j - 1)) from by rw [e1, pz_shl (by omega)], fb_xorI, e2]
theorem px_rloop {x2 : Int32} {n : Nat} {w : Nat} {l : Nat → Nat → Nat} {P : Nat → List Nat} {nm : g_N} {D : g_D} {U : List g_D} {F : List (Nat × Nat × Nat)} {T : List Nat} {sd : Nat} {rf : Nat → Int32} {ft : Int32 × Int32} {im : List Nat} (hg : g_ld l P) (hd : g_dk l D) (hn : n ≤ 40) (hdn : D.1 0 + n ≤ 999) : ∀ (k fuel j b v : Nat) (σ : sw_St), RX σ w l P nm D U F T sd rf ft im → j + k = l 0 1 + 1 → v ≤ 6001 → k < fuel →
    ∃ σ', L_X1_bestRumour_8 fuel σ (nI n) x2 (g_m1 b) (g_m1 v) (g_m1 j) = some (if x2 = 0 then g_m1 (g_rb (g_rs l P D n) k j b v).1 else g_m1 (g_rb (g_rs l P D n) k j b v).2, σ') ∧ RX σ' w l P nm D U F T sd rf ft im
  | 0, fuel + 1, j, b, v, σ, h, hk, hv, hf => by
    have h10 := hg.2.1
    refine ⟨σ, ?_, h⟩
    show S_X1_bestRumour_8 _ σ (nI n) x2 (g_m1 b) (g_m1 v) (g_m1 j) = _
    unfold S_X1_bestRumour_8 S_X1_bestRumour_157
    rw [h.1.2.1]
    dsimp only [Option.bind]
    rw [if_pos (ld_O h.1.1), h.1.2.2.2.1, if_pos ((g_m1_le (by omega) (by omega)).mpr (by omega))]
    by_cases e : x2 = 0
    · rw [if_pos e, if_pos e]
      rfl
    · rw [if_neg e, if_neg e]
      rfl
  | k + 1, fuel + 1, j, b, v, σ, h, hk, hv, hf => by
    have h10 := hg.2.1
    have hle := g_rs_le (n := n) (j := j) hg hd
    obtain ⟨σ1, p1, p2⟩ := px_rin (n := n) (j := j) (x2 := x2) (x3 := g_m1 b) (x4 := g_m1 v) (c8 := fun σ x1 x2 x3 x4 x5 => L_X1_bestRumour_8 fuel σ x1 x2 x3 x4 x5) hg hd hn hdn (by omega) (l 0 2) sw_fuel 0 0 σ h (by omega) (by have := sw_fuel_ge; have := hg.2.2.1; omega)
    have e0 : L_X1_bestRumour_8 (fuel + 1) σ (nI n) x2 (g_m1 b) (g_m1 v) (g_m1 j) = L_X1_bestRumour_29 (fun σ x1 x2 x3 x4 x5 => L_X1_bestRumour_8 fuel σ x1 x2 x3 x4 x5) sw_fuel σ (nI n) x2 (g_m1 b) (g_m1 v) (g_m1 j) (nI 0) (nI 0) := by
      show S_X1_bestRumour_8 _ σ (nI n) x2 (g_m1 b) (g_m1 v) (g_m1 j) = _
      unfold S_X1_bestRumour_8
      rw [h.1.2.1]
      dsimp only [Option.bind]
      rw [if_pos (ld_O h.1.1), h.1.2.2.2.1, if_neg (fun z => by have := (g_m1_le (by omega) (by omega)).mp z; omega)]
      rfl
    rw [show g_sw (g_rv l P D n j) (l 0 2) 0 0 = g_rs l P D n j from rfl] at p1
    rw [e0, p1]
    unfold g_rb
    by_cases e : v ≤ g_rs l P D n j
    · rw [if_neg (fun z => by have := (g_m1_le (by omega) (by omega)).mp z; omega), if_pos e, ← g_m1_s (g_rs l P D n j)]
      exact px_rloop hg hd hn hdn k fuel (j + 1) j (g_rs l P D n j + 1) σ1 p2 (by omega) (by omega) (by omega)
    · rw [if_pos ((g_m1_le (by omega) (by omega)).mpr (by omega)), if_neg e]
      exact px_rloop hg hd hn hdn k fuel (j + 1) b v σ1 p2 (by omega) (by omega) (by omega)
/-- the reference -/
theorem pm_tv.eq {τ τ' : sw_St} {l : Nat → Nat → Nat} {P : Nat → List Nat} {op : Nat → Bool} {day : Nat} {cu : Nat → Nat} {rw : Nat → Nat → Nat} (h : pm_tv τ l P op day cu rw) (m : pm_sm [37, 73] [48, 54, 55, 56, 59, 101] τ τ') (e : τ'.1 37 = τ.1 37) : pm_tv τ' l P op day cu rw := by
  obtain ⟨h1, h2, h3, h4⟩ := h
  refine ⟨h1.mv m (by unfold pm_LS; decide), fun k hk => by rw [e]; exact h2 k hk, fun t ht => ?_, by rw [m.2.1 58 (by decide)]; exact h4⟩
  obtain ⟨a1, a2, a3, a4, a5⟩ := h3 t ht
  refine ⟨a1, by rw [e]; exact a2, fun j hj => by rw [e]; exact a3 j hj, ?_, fun f hf => by rw [m.r (by decide) (by decide)]; exact a5 f hf⟩
  rw [m.2.1 52 (by decide), m.2.1 53 (by decide), m.r (by decide) (by decide)]
  exact a4
theorem pm_tv.ch {τ τ' : sw_St} {l : Nat → Nat → Nat} {P : Nat → List Nat} {op op' : Nat → Bool} {day : Nat} {cu : Nat → Nat} {rw : Nat → Nat → Nat} (h : pm_tv τ l P op day cu rw) (m : pm_sm [37] [] τ τ') (e : ∀ i, i < 2 ∨ 12 ≤ i → τ'.1 37 i = τ.1 37 i) (ho : pm_op τ' l op') : pm_tv τ' l P op' day cu rw := by
  obtain ⟨h1, h2, h3, h4⟩ := h
  refine ⟨h1.mv m (by unfold pm_LS; decide), ho, fun t ht => ?_, by rw [m.2.1 58 (by decide)]; exact h4⟩
  obtain ⟨a1, a2, a3, a4, a5⟩ := h3 t ht
  refine ⟨a1, by rw [e 0 (by omega)]; exact a2, fun j hj => by rw [e _ (by omega)]; exact a3 j hj, ?_, fun f hf => by rw [m.r (by decide) (by decide)]; exact a5 f hf⟩
  rw [m.2.1 52 (by decide), m.2.1 53 (by decide), m.r (by decide) (by decide)]
  exact a4
theorem pm_waloop {τ : sw_St} {l : Nat → Nat → Nat} {P : Nat → List Nat} {v : Nat → Nat} (hl : pm_ld τ l P) (hv : ∀ t, t < l 0 2 → τ.1 37 (13 + 12 * t) = nI (v t)) (h6 : l 0 2 ≤ 6) : ∀ (n fuel k acc : Nat), k + n = l 0 2 → n < fuel → L_X11_woolAll_4 fuel τ (nI acc) (nI k) = some (nI (g_sw v n k acc), τ)
  | 0, fuel + 1, k, acc, hk, hf => by
    show S_X11_woolAll_4 _ τ (nI acc) (nI k) = _
    unfold S_X11_woolAll_4 F_X11_sheepMany
    dsimp only [Option.bind]
    rw [hl.2.2.1, if_pos (nI_le (by omega) (by omega))]
    rfl
  | n + 1, fuel + 1, k, acc, hk, hf => by
    show S_X11_woolAll_4 _ τ (nI acc) (nI k) = _
    unfold S_X11_woolAll_4 F_X11_sheepMany
    dsimp only [Option.bind]
    rw [hl.2.2.1, if_neg (nI_ge (by omega) (by omega)), pm_woolOf (by omega)]
    dsimp only
    rw [hv k (by omega), nI_add, nI_1]
    exact pm_waloop hl hv h6 n fuel (k + 1) _ (by omega) (by omega)
theorem pm_rloop {x2 : Int32} {n : Nat} {m τ1 : sw_St} {l : Nat → Nat → Nat} {P : Nat → List Nat} {nm : g_N} {D : g_D} {U : List g_D} {F : List (Nat × Nat × Nat)} {T : List Nat} {sd : Nat} {rf : Nat → Int32} {ft : Int32 × Int32} {im : List Nat} (hg : g_ld l P) (hd : g_dk l D) (hn : n ≤ 40) (hdn : D.1 0 + n ≤ 999) (hM : RM m l P nm D U F T sd rf ft im) (r2 : ∀ j, j < 84 → τ1.1 38 j = m.1 37 j) (r3 : pm_sm [38] [58] m τ1) (r4 : τ1.1 0 58 = 1) : ∀ (k fuel j b v : Nat) (τ : sw_St), pm_sm [37, 73] [48, 54, 55, 56, 59, 101] τ1 τ → τ.1 37 = τ1.1 37 → j + k = l 0 1 + 1 → v ≤ 6001 → k < fuel →
    ∃ τ', L_X11_rumour_35 fuel τ (nI n) x2 (g_m1 b) (g_m1 v) (g_m1 j) = some (if x2 = 0 then g_m1 (g_rb (g_rs l P D n) k j b v).1 else g_m1 (g_rb (g_rs l P D n) k j b v).2, τ') ∧ RM τ' l P nm D U F T sd rf ft im
  | 0, fuel + 1, j, b, v, τ, h, h37, hk, hv, hf => by
    have h10 := hg.2.1
    have tv := (hM.tv hg r3 r4).eq h h37
    obtain ⟨τ3, u1, u2, u3, u4, u5, u6⟩ := pm_back τ
    refine ⟨τ3, ?_, hM.back r2 r3 h (by decide) (by decide) (fun i _ => by rw [h37]) u2 u3 u4 u5 u6⟩
    show S_X11_rumour_35 _ τ (nI n) x2 (g_m1 b) (g_m1 v) (g_m1 j) = _
    unfold S_X11_rumour_35 S_X11_rumour_114 F_X11_gapMany
    dsimp only [Option.bind]
    rw [tv.1.2.1, if_pos ((g_m1_le (by omega) (by omega)).mpr (by omega)), u1]
    dsimp only
    by_cases e : x2 = 0
    · rw [if_pos e, if_pos e]
      rfl
    · rw [if_neg e, if_neg e]
      rfl
  | k + 1, fuel + 1, j, b, v, τ, h, h37, hk, hv, hf => by
    have h10 := hg.2.1
    have h6 := hg.2.2.1
    have hle := g_rs_le (n := n) (j := j) hg hd
    have hst := g_st_lt (show j ≤ 10 by omega)
    have tv := (hM.tv hg r3 r4).eq h h37
    obtain ⟨τ2, p1, p2, p3, p4⟩ := pm_changes (set := g_st j) hg hst tv.1 tv.2.1
    have tv2 := tv.ch p3 p4 p2
    rw [show (fun i => (D.1 2).testBit i ^^ (g_st j).testBit i) = (fun i => (D.1 2 ^^^ g_st j).testBit i) from funext fun i => (Nat.testBit_xor _ _ _).symm] at tv2
    obtain ⟨τ3, q1, q2, q3, q4, q5⟩ := pm_tdays (N := n) hg (by omega) n sw_fuel 0 (D.1 0) _ τ2 tv2 (fun t ht => hd.2.2.2.1 t ht) (by omega) (by have := sw_fuel_ge; omega) (by omega)
    have eW := pm_waloop (v := g_rv l P D n j) q2.1 (fun t ht => by
      have := (q2.2.2.1 t ht).2.2.1 1 (by omega)
      rw [show 12 + 12 * t + 1 = 13 + 12 * t by omega] at this
      exact this) h6 (l 0 2) sw_fuel 0 0 (by omega) (by have := sw_fuel_ge; omega)
    obtain ⟨τ4, s1, s2, s3, s4⟩ := pm_anew τ3
    have mm : pm_sm [37, 73] [48, 54, 55, 56, 59, 101] τ1 τ4 := (h.trans ((p3.mono (by decide) (by decide)).trans q3)).trans (s4.mono (by decide) (by decide))
    have m3 : pm_sm [37, 73] [48, 54, 55, 56, 59, 101] τ1 τ3 := h.trans ((p3.mono (by decide) (by decide)).trans q3)
    have e37 : τ4.1 37 = τ1.1 37 := by
      funext i
      by_cases hi : i < 84
      · rw [s2 i hi, m3.r (by decide) (by decide), r2 i hi, r3.r (by decide) (by decide)]
      · rw [s3 i (by omega), q4 i (by omega), p4 i (by omega), h37]
    have e59 : L_X11_rumour_35 (fuel + 1) τ (nI n) x2 (g_m1 b) (g_m1 v) (g_m1 j) = S_X11_rumour_59 (fun σ x1 x2 x3 x4 x5 => L_X11_rumour_35 fuel σ x1 x2 x3 x4 x5) τ (nI n) x2 (g_m1 b) (g_m1 v) (g_m1 j) (nI (g_st j)) := by
      show S_X11_rumour_35 _ τ (nI n) x2 (g_m1 b) (g_m1 v) (g_m1 j) = _
      unfold S_X11_rumour_35 F_X11_gapMany
      dsimp only [Option.bind]
      rw [tv.1.2.1, if_neg (fun z => by have := (g_m1_le (by omega) (by omega)).mp z; omega)]
      by_cases e : j = 0
      · rw [if_pos (show g_m1 j = -1 from by rw [e]; rfl), e]
        rfl
      · have e1 : g_m1 j = nI (j - 1) := by unfold g_m1; rw [if_neg e]
        have e2 : g_st j = 2 ^ (j - 1) := by unfold g_st; rw [if_neg e]
        rw [if_neg (show ¬ g_m1 j = -1 from by rw [e1]; exact pz_nm1 (by omega)), show (1 : Int32) <<< (g_m1 j &&& 31) = nI (2 ^ (j - 1)) from by rw [e1, pz_shl (by omega)], e2]
    have eD : F_X11_daysGo τ2 (nI n) = some ((), τ3) := by
      unfold F_X11_daysGo
      exact q1
    have eA : F_X11_woolAll τ3 = some (nI (g_rs l P D n j), τ3) := by
      unfold F_X11_woolAll
      exact eW
    rw [e59]
    unfold S_X11_rumour_59 S_X11_rumour_94
    rw [p1]
    dsimp only [Option.bind]
    rw [eD]
    dsimp only
    rw [eA]
    dsimp only
    rw [s1]
    dsimp only
    rw [g_m1_1]
    unfold g_rb
    by_cases e : v ≤ g_rs l P D n j
    · rw [if_pos ((g_m1_lt (by omega) (by omega)).mpr e), if_pos e, ← g_m1_s (g_rs l P D n j)]
      exact pm_rloop hg hd hn hdn hM r2 r3 r4 k fuel (j + 1) j (g_rs l P D n j + 1) τ4 mm e37 (by omega) (by omega) (by omega)
    · rw [if_neg (fun z => e ((g_m1_lt (by omega) (by omega)).mp z)), if_neg e]
      exact pm_rloop hg hd hn hdn hM r2 r3 r4 k fuel (j + 1) b v τ4 mm e37 (by omega) (by omega) (by omega)
theorem op_16 : ll_16 RR := by
  intro x m hR a b
  obtain ⟨w, l, P, nm, D, U, F, T, sd, rf, ft, im, hG, hX, hM⟩ := hR
  have hR : RR x m := ⟨w, l, P, nm, D, U, F, T, sd, rf, ft, im, hG, hX, hM⟩
  have hd := hG.2.2.1.1
  unfold F_X10_rumour F_X11_rumour S_X10_rumour_24 S_X11_rumour_21
  rw [show (40 : Int32) = nI 40 from rfl, show F_X11_isAhead m a 1 (nI 40) = _ from pm_ahead (lo := 1) hd (by omega) (by omega) hM.2.2.1.1, px_can hd (by omega) hX.2.2.2.1.1]
  dsimp only [Option.bind]
  by_cases h : g_cm a 1 40 (D.1 0) = true
  · obtain ⟨n, hn1, hn2, hn3, rfl⟩ := g_cm_of h
    have h0 : g_cm (nI n) 0 40 (D.1 0) = true := by
      unfold g_cm
      rw [decide_eq_true_eq, nI_toInt (by omega)]
      omega
    rw [if_pos h, if_pos h0, if_neg pz_10, if_neg pz_10, pm_inL m b 1 (by decide), if_neg (show ¬ nI n < 1 from by rw [fa_lt, nI_toInt (by omega), show (1 : Int32).toInt = 1 from by decide]; omega)]
    dsimp only
    by_cases hb : g_in b 2 = true
    · obtain ⟨j, hj, rfl⟩ := g_in_of hb
      rw [if_pos hb, if_neg pz_10, if_neg (nI_pos (by omega)), if_pos (show nI j ≤ (1 : Int32) from nI_le (b := 1) (by omega) (by omega))]
      obtain ⟨τ1, r1, r2, r3, r4⟩ := pm_aside m
      obtain ⟨σ2, p1, p2⟩ := px_rloop (x2 := nI j) hG.1 hG.2.2.1 hn2 hn3 (l 0 1 + 1) sw_fuel 0 0 0 x hX (by omega) (by omega) (by have := sw_fuel_ge; have := hG.1.2.1; omega)
      obtain ⟨τ2, q1, q2⟩ := pm_rloop (x2 := nI j) hG.1 hG.2.2.1 hn2 hn3 hM r2 r3 r4 (l 0 1 + 1) sw_fuel 0 0 0 τ1 (pm_sm.refl _ _ _) rfl (by omega) (by omega) (by have := sw_fuel_ge; have := hG.1.2.1; omega)
      rw [r1]
      dsimp only
      unfold F_X1_bestRumour
      rw [show (-1 : Int32) = g_m1 0 from rfl, p1, q1]
      exact ⟨_, σ2, τ2, rfl, rfl, w, l, P, nm, D, U, F, T, sd, rf, ft, im, hG, p2, q2⟩
    · rw [if_neg hb, if_pos rfl]
      refine ⟨-1, x, m, ?_, rfl, hR⟩
      rcases g_in_no hb (by omega) with q | ⟨q1, q2, q3⟩
      · rw [if_pos q]
      · rw [if_neg q1, if_neg (show ¬ b ≤ (1 : Int32) from by rw [fa_le, show (1 : Int32).toInt = 1 from by decide]; rw [fa_le, nI_toInt (by omega)] at q2; omega)]
  · rw [if_neg h, if_pos rfl]
    refine ⟨-1, x, m, ?_, rfl, hR⟩
    by_cases h1 : a < 1
    · rw [if_pos h1]
    · have h0 : ¬ g_cm a 0 40 (D.1 0) = true := fun z => h (by
        unfold g_cm at z ⊢
        rw [decide_eq_true_eq] at z ⊢
        rw [fa_lt, show (1 : Int32).toInt = 1 from by decide] at h1
        omega)
      rw [if_neg h1, if_neg h0, if_pos rfl]

/-! Where to stand and watch. -/
def g_wr (l : Nat → Nat → Nat) (op : Nat → Bool) (f : Nat) : Nat → Nat → Nat → Nat
  | 0, _, a => a
  | n + 1, k, a => g_wr l op f n (k + 1) (match (if op k = true then g_bey l k f else none) with
    | none => a
    | some b => a ||| 2 ^ b)
def g_nw (l : Nat → Nat → Nat) (op : Nat → Bool) (f : Nat) : Nat := g_wr l op f (l 0 1) 0 (2 ^ f)
theorem pm_wtloop {τ : sw_St} {l : Nat → Nat → Nat} {P : Nat → List Nat} {op : Nat → Bool} {f : Nat} (hg : g_ld l P) (hl : pm_ld τ l P) (ho : pm_op τ l op) (hf : f < 8) : ∀ (n fuel k a : Nat), k + n = l 0 1 → n < fuel → L_X11_watchers_6 fuel τ (nI f) (nI a) (nI k) = some (nI (g_wr l op f n k a), τ)
  | 0, fuel + 1, k, a, hk, hfu => by
    have h10 := hg.2.1
    show S_X11_watchers_6 _ τ (nI f) (nI a) (nI k) = _
    unfold S_X11_watchers_6 F_X11_gapMany
    dsimp only [Option.bind]
    rw [hl.2.1, if_pos (nI_le (by omega) (by omega))]
    rfl
  | n + 1, fuel + 1, k, a, hk, hfu => by
    have h10 := hg.2.1
    show S_X11_watchers_6 _ τ (nI f) (nI a) (nI k) = _
    unfold S_X11_watchers_6 S_X11_watchers_35 F_X11_gapMany
    dsimp only [Option.bind]
    rw [hl.2.1, if_neg (nI_ge (by omega) (by omega)), pm_across hg hl ho (by omega) hf]
    dsimp only
    unfold g_wr
    rw [nI_1]
    cases hb : (if op k = true then g_bey l k f else none) with
    | none =>
      rw [if_pos (show oI none = -1 from rfl)]
      exact pm_wtloop hg hl ho hf n fuel (k + 1) a (by omega) (by omega)
    | some b =>
      have hb8 : b < 8 := by
        by_cases h : op k = true
        · rw [if_pos h] at hb
          exact (g_bey_lt hg (by omega) hb).2
        · rw [if_neg h] at hb
          cases hb
      rw [if_neg (show ¬ oI (some b) = -1 from pz_nm1 (by omega)), show oI (some b) = nI b from rfl, pz_shl (by omega), fa_or]
      exact pm_wtloop hg hl ho hf n fuel (k + 1) (a ||| 2 ^ b) (by omega) (by omega)
theorem pm_watchers {τ : sw_St} {l : Nat → Nat → Nat} {P : Nat → List Nat} {op : Nat → Bool} {f : Nat} (hg : g_ld l P) (hl : pm_ld τ l P) (ho : pm_op τ l op) (hf : f < 8) : F_X11_watchers τ (nI f) = some (nI (g_nw l op f), τ) := by
  unfold F_X11_watchers
  rw [pz_shl (by omega)]
  exact pm_wtloop hg hl ho hf (l 0 1) sw_fuel 0 (2 ^ f) (by omega) (by have := sw_fuel_ge; have := hg.2.1; omega)
/-- the class fills who is near -/
theorem px_nrloop {w : Nat} {l : Nat → Nat → Nat} {P : Nat → List Nat} {opn : Nat} (hg : g_ld l P) (ho : opn < 1024) : ∀ (n fuel k : Nat) (acc : Nat → Nat) (σ : sw_St), px_ld σ w l P → σ.1 38 2 = nI opn → (∀ f, f < l 0 0 → σ.1 59 f = nI (acc f)) → k + n = l 0 1 → n < fuel →
    ∃ σ', L_X1_fillNear_35 fuel σ w (nI k) = some ((), σ') ∧ (∀ f, f < l 0 0 → σ'.1 59 f = nI (g_wr l (fun i => opn.testBit i) f n k (acc f))) ∧ pz_sm [59] σ σ'
  | 0, fuel + 1, k, acc, σ, hl, h2, ha, hk, hf => by
    have h10 := hg.2.1
    refine ⟨σ, ?_, ha, pz_sm.refl _ _⟩
    show S_X1_fillNear_35 _ σ w (nI k) = _
    unfold S_X1_fillNear_35
    rw [if_pos (ld_O hl.1), hl.2.2.2.1, if_pos (nI_le (by omega) (by omega))]
  | n + 1, fuel + 1, k, acc, σ, hl, h2, ha, hk, hf => by
    have h10 := hg.2.1
    have h8 := hg.1
    have hk1 : k < l 0 1 := by omega
    obtain ⟨b1, b2, b3, b4⟩ := hg.2.2.2.2.2.1 k hk1
    obtain ⟨c1, c2, c3⟩ := hl.2.2.2.2.2.2.2.1 k hk1
    have hw := hl.1
    have n59 : ∀ i, i ≤ 12 → w + i ≠ 59 := fun i hi => by omega
    by_cases h : opn.testBit k = true
    · have m1 : pz_sm [59] σ (sw_uI (sw_uI σ 59 (l 2 (3 * k)) (nI (acc (l 2 (3 * k)) ||| 2 ^ l 2 (3 * k + 1)))) 59 (l 2 (3 * k + 1)) (nI (acc (l 2 (3 * k + 1)) ||| 2 ^ l 2 (3 * k)))) := ((pz_sm.refl _ σ).I (by decide) _ _).I (by decide) _ _
      obtain ⟨σ', p1, p2, p3⟩ := px_nrloop hg ho n fuel (k + 1) (fun f => match (if opn.testBit k = true then g_bey l k f else none) with
        | none => acc f
        | some b => acc f ||| 2 ^ b) _ (hl.mv m1 (by decide)) (by rw [m1.r (by decide)]; exact h2) (fun f hf => by
          (try dsimp only)
          rw [if_pos h]
          unfold g_bey
          by_cases e1 : l 2 (3 * k) = f
          · rw [if_pos e1, pz_Ik (by omega), ← e1, pz_Ie rfl rfl]
          · by_cases e2 : l 2 (3 * k + 1) = f
            · rw [if_neg e1, if_pos e2, ← e2, pz_Ie rfl rfl]
            · rw [if_neg e1, if_neg e2, pz_Ik (by omega), pz_Ik (by omega)]
              exact ha f hf) (by omega) (by omega)
      refine ⟨σ', ?_, p2, m1.trans p3⟩
      show S_X1_fillNear_35 _ σ w (nI k) = _
      unfold S_X1_fillNear_35 S_X1_fillNear_102
      have i8 : ∀ a, a < 8 → sw_inb (nI a) 8 = true := fun a h => pz_inb (by omega) (by omega)
      have i10 : sw_inb (nI k) 10 = true := pz_inb (by omega) (by omega)
      have q1 : k < 2 ^ 31 := by omega
      have q2 : l 2 (3 * k) < 2 ^ 31 := by omega
      have q3 : l 2 (3 * k + 1) < 2 ^ 31 := by omega
      rw [if_pos (ld_O hl.1), hl.2.2.2.1, if_neg (nI_ge (by omega) (by omega)), h2, px_bitN (by omega) (by omega), if_pos h, if_pos (show nI 1 = 1 from rfl)]
      simp only [ld_O hw, ld_A3 hw, ld_A4 hw, ld_n3 hw, ld_n4 hw, i10, if_true, nI_clamp q1, c1, c2, i8 _ (show l 2 (3 * k) < 8 by omega), i8 _ (show l 2 (3 * k + 1) < 8 by omega), nI_clamp q2, nI_clamp q3, pz_Io (n59 3 (by omega)), pz_Io (n59 4 (by omega)), pz_shl (show l 2 (3 * k) < 31 by omega), pz_shl (show l 2 (3 * k + 1) < 31 by omega), ha _ b1, fa_or, nI_1, pz_Ik (show l 2 (3 * k + 1) ≠ l 2 (3 * k) from fun z => b3 z.symm), ha _ b2]
      exact p1
    · obtain ⟨σ', p1, p2, p3⟩ := px_nrloop hg ho n fuel (k + 1) acc σ hl h2 ha (by omega) (by omega)
      refine ⟨σ', ?_, fun f hf => ?_, p3⟩
      · show S_X1_fillNear_35 _ σ w (nI k) = _
        unfold S_X1_fillNear_35 S_X1_fillNear_102
        rw [if_pos (ld_O hl.1), hl.2.2.2.1, if_neg (nI_ge (by omega) (by omega)), h2, px_bitN (by omega) (by omega), if_neg h, if_neg (show ¬ nI 0 = 1 from by decide), nI_1]
        exact p1
      · unfold g_wr
        simp only [if_neg h]
        exact p2 f hf
theorem px_n0loop {w : Nat} {l : Nat → Nat → Nat} {P : Nat → List Nat} (hg : g_ld l P) : ∀ (n fuel k : Nat) (σ : sw_St), px_ld σ w l P → (∀ f, f < k → σ.1 59 f = nI (2 ^ f)) → k + n = l 0 0 → n < fuel →
    ∃ σ', L_X1_fillNear_10 fuel σ w (nI k) = L_X1_fillNear_35 sw_fuel σ' w 0 ∧ (∀ f, f < l 0 0 → σ'.1 59 f = nI (2 ^ f)) ∧ pz_sm [59] σ σ'
  | 0, fuel + 1, k, σ, hl, ha, hk, hf => by
    have h8 := hg.1
    refine ⟨σ, ?_, fun f hf => ha f (by omega), pz_sm.refl _ _⟩
    show S_X1_fillNear_10 _ σ w (nI k) = _
    unfold S_X1_fillNear_10
    rw [if_pos (ld_O hl.1), hl.2.2.1, if_pos (nI_le (by omega) (by omega))]
  | n + 1, fuel + 1, k, σ, hl, ha, hk, hf => by
    have h8 := hg.1
    have m1 : pz_sm [59] σ (sw_uI σ 59 k (nI (2 ^ k))) := (pz_sm.refl _ σ).I (by decide) _ _
    obtain ⟨σ', p1, p2, p3⟩ := px_n0loop hg n fuel (k + 1) _ (hl.mv m1 (by decide)) (fun f hf => by
      by_cases e : f = k
      · rw [e, pz_Ie rfl rfl]
      · rw [pz_Ik (by omega)]
        exact ha f (by omega)) (by omega) (by omega)
    refine ⟨σ', ?_, p2, m1.trans p3⟩
    show S_X1_fillNear_10 _ σ w (nI k) = _
    unfold S_X1_fillNear_10
    rw [if_pos (ld_O hl.1), hl.2.2.1, if_neg (nI_ge (by omega) (by omega)), if_pos (pz_inb (by omega) (by omega)), nI_clamp (by omega), pz_shl (by omega), nI_1]
    exact p1
theorem px_fillNear {σ : sw_St} {w : Nat} {l : Nat → Nat → Nat} {P : Nat → List Nat} {opn : Nat} (hg : g_ld l P) (ho : opn < 1024) (hl : px_ld σ w l P) (h2 : σ.1 38 2 = nI opn) : ∃ σ', F_X1_fillNear σ = some ((), σ') ∧ (∀ f, f < l 0 0 → σ'.1 59 f = nI (g_nw l (fun i => opn.testBit i) f)) ∧ pz_sm [59] σ σ' := by
  have hfu := sw_fuel_ge
  have h8 := hg.1
  have h10 := hg.2.1
  obtain ⟨σ1, p1, p2, p3⟩ := px_n0loop hg (l 0 0) sw_fuel 0 σ hl (fun f hf => by omega) (by omega) (by omega)
  obtain ⟨σ2, q1, q2, q3⟩ := px_nrloop hg ho (l 0 1) sw_fuel 0 (fun f => 2 ^ f) σ1 (hl.mv p3 (by decide)) (by rw [p3.r (by decide)]; exact h2) p2 (by omega) (by omega)
  refine ⟨σ2, ?_, q2, p3.trans q3⟩
  unfold F_X1_fillNear
  rw [hl.2.1]
  dsimp only [Option.bind]
  rw [show (0 : Int32) = nI 0 from rfl, p1]
  exact q1
/-- all of them -/
def g_all (p : Nat → Bool) : Nat → Nat → Bool
  | 0, _ => true
  | n + 1, k => p k && g_all p n (k + 1)
theorem g_all_s (p : Nat → Bool) (n k : Nat) : g_all p (n + 1) k = (p k && g_all p n (k + 1)) := rfl
theorem g_all_iff {p : Nat → Bool} : ∀ n k, g_all p n k = true ↔ ∀ i, k ≤ i → i < k + n → p i = true
  | 0, k => ⟨fun _ i h1 h2 => by omega, fun _ => rfl⟩
  | n + 1, k => by
    unfold g_all
    rw [Bool.and_eq_true, g_all_iff n (k + 1)]
    constructor
    · intro ⟨h1, h2⟩ i h3 h4
      by_cases e : i = k
      · rw [e]
        exact h1
      · exact h2 i (by omega) (by omega)
    · intro h
      exact ⟨h k (by omega) (by omega), fun i h1 h2 => h i (by omega) (by omega)⟩
def g_oc (fl : Nat → Nat) : Nat → Nat → Nat → Nat
  | 0, _, a => a
  | n + 1, k, a => g_oc fl n (k + 1) (a ||| 2 ^ fl k)
theorem g_oc_bit {fl : Nat → Nat} {f : Nat} : ∀ n k a, (g_oc fl n k a).testBit f = true ↔ a.testBit f = true ∨ ∃ i, k ≤ i ∧ i < k + n ∧ fl i = f
  | 0, k, a => ⟨fun h => Or.inl h, fun h => by
      rcases h with h | ⟨i, h1, h2, -⟩
      · exact h
      · omega⟩
  | n + 1, k, a => by
    unfold g_oc
    rw [g_oc_bit n (k + 1), Nat.testBit_or, Bool.or_eq_true, Nat.testBit_two_pow]
    simp only [decide_eq_true_eq]
    constructor
    · rintro ((h | h) | ⟨i, h1, h2, h3⟩)
      · exact Or.inl h
      · exact Or.inr ⟨k, by omega, by omega, h⟩
      · exact Or.inr ⟨i, by omega, by omega, h3⟩
    · rintro (h | ⟨i, h1, h2, h3⟩)
      · exact Or.inl (Or.inl h)
      · by_cases e : i = k
        · rw [e] at h3
          exact Or.inl (Or.inr h3)
        · exact Or.inr ⟨i, by omega, by omega, h3⟩
theorem g_oc_lt {fl : Nat → Nat} : ∀ n k a, (∀ i, k ≤ i → i < k + n → fl i < 8) → a < 2 ^ 8 → g_oc fl n k a < 2 ^ 8
  | 0, _, _, _, ha => ha
  | n + 1, k, a, h, ha => g_oc_lt n (k + 1) _ (fun i h1 h2 => h i (by omega) (by omega)) (Nat.or_lt_two_pow ha (Nat.pow_lt_pow_right (by omega) (h k (by omega) (by omega))))
/-- is a set of fields a watch -/
def g_wa (l : Nat → Nat → Nat) (op : Nat → Bool) (fl : Nat → Nat) (S : Nat) : Bool := g_all (fun s => decide (g_nw l op (fl s) &&& S ≠ 0)) (l 0 2) 0
def g_ne (a S : Nat) : Bool := decide (a &&& S ≠ 0)
theorem g_nI0 {a : Nat} (h : a < 2 ^ 31) : nI a = 0 ↔ a = 0 := by
  constructor
  · intro z
    by_cases e : a = 0
    · exact e
    · exact absurd z (nI_ne0 (by omega) h)
  · intro z
    rw [z]
    rfl
theorem g_and_lt (a : Nat) {S : Nat} (h : S < 256) : a &&& S < 2 ^ 31 := by
  have := Nat.and_le_right (n := a) (m := S)
  omega
theorem px_wsloop {σ : sw_St} {w : Nat} {l : Nat → Nat → Nat} {P : Nat → List Nat} {N : Nat → Nat} {occ S : Nat} (hg : g_ld l P) (hl : px_ld σ w l P) (hN : ∀ f, f < l 0 0 → σ.1 59 f = nI (N f)) (ho : occ < 256) (hS : S < 256) : ∀ (n fuel k : Nat), k + n = l 0 0 → n < fuel → L_X1_watches_2 fuel σ (nI S) (nI occ) (nI k) = some (if g_all (fun f => !(occ.testBit f) || g_ne (N f) S) n k = true then 1 else 0, σ)
  | 0, fuel + 1, k, hk, hf => by
    have h8 := hg.1
    show S_X1_watches_2 _ σ (nI S) (nI occ) (nI k) = _
    unfold S_X1_watches_2
    rw [hl.2.1]
    dsimp only [Option.bind]
    rw [if_pos (ld_O hl.1), hl.2.2.1, if_pos (nI_le (by omega) (by omega))]
    rfl
  | n + 1, fuel + 1, k, hk, hf => by
    have h8 := hg.1
    show S_X1_watches_2 _ σ (nI S) (nI occ) (nI k) = _
    unfold S_X1_watches_2 S_X1_watches_38
    rw [hl.2.1]
    dsimp only [Option.bind]
    rw [if_pos (ld_O hl.1), hl.2.2.1, if_neg (nI_ge (by omega) (by omega)), px_bitN (by omega) (by omega), nI_1, px_wsloop hg hl hN ho hS n fuel (k + 1) (by omega) (by omega), g_all_s]
    (try dsimp only)
    by_cases h : occ.testBit k = true
    · rw [if_pos h, if_pos (show nI 1 = 1 from rfl), if_pos (pz_inb (by omega) (by omega)), nI_clamp (by omega), hN k (by omega), fa_and]
      by_cases e : N k &&& S = 0
      · rw [if_pos ((g_nI0 (g_and_lt _ hS)).mpr e), if_neg]
        rw [h, show g_ne (N k) S = false from by unfold g_ne; rw [e]; rfl]
        simp
      · rw [if_neg (fun z => e ((g_nI0 (g_and_lt _ hS)).mp z)), h, show g_ne (N k) S = true from by unfold g_ne; exact decide_eq_true e]
        simp
    · rw [if_neg h, if_neg (show ¬ nI 0 = 1 from by decide), show occ.testBit k = false from by simpa using h]
      simp
/-- the least of them -/
def g_lw (W : Nat → Bool) : Nat → Nat → Nat → Nat
  | 0, _, b => b
  | n + 1, S, b => g_lw W n (S + 1) (if W S = true ∧ (b = 0 ∨ g_pc S < g_pc (b - 1)) then S + 1 else b)
theorem g_pc_le (n : Nat) : g_pc n ≤ 10 := by
  unfold g_pc
  exact Nat.le_trans (List.length_filter_le _ _) (by simp)
theorem g_lw_oc {l : Nat → Nat → Nat} {op : Nat → Bool} {fl : Nat → Nat} {S : Nat} (hfl : ∀ s, s < l 0 2 → fl s < l 0 0) : g_all (fun f => !((g_oc fl (l 0 2) 0 0).testBit f) || g_ne (g_nw l op f) S) (l 0 0) 0 = g_wa l op fl S := by
  rw [Bool.eq_iff_iff]
  unfold g_wa
  rw [g_all_iff, g_all_iff]
  constructor
  · intro h s _ hs
    have h1 := h (fl s) (by omega) (by have := hfl s (by omega); omega)
    have h2 : (g_oc fl (l 0 2) 0 0).testBit (fl s) = true := (g_oc_bit _ _ _).mpr (Or.inr ⟨s, by omega, hs, rfl⟩)
    (try dsimp only at h1)
    rw [h2] at h1
    exact h1
  · intro h f _ hf
    by_cases e : (g_oc fl (l 0 2) 0 0).testBit f = true
    · rcases (g_oc_bit _ _ _).mp e with e1 | ⟨i, h1, h2, h3⟩
      · simp at e1
      · have := h i h1 h2
        rw [← h3]
        (try dsimp only)
        rw [Bool.or_eq_true]
        exact Or.inr this
    · (try dsimp only)
      rw [show (g_oc fl (l 0 2) 0 0).testBit f = false from by simpa using e]
      rfl
theorem px_lwloop {σ : sw_St} {w : Nat} {l : Nat → Nat → Nat} {P : Nat → List Nat} {op : Nat → Bool} {fl : Nat → Nat} (hg : g_ld l P) (hl : px_ld σ w l P) (hN : ∀ f, f < l 0 0 → σ.1 59 f = nI (g_nw l op f)) (hfl : ∀ s, s < l 0 2 → fl s < l 0 0) : ∀ (n fuel S b : Nat), S + n = 2 ^ l 0 0 → b ≤ S → n < fuel → L_X1_leastWatch_72 fuel σ (nI (g_oc fl (l 0 2) 0 0)) (g_m1 b) (nI S) = some (g_m1 (g_lw (g_wa l op fl) n S b), σ)
  | 0, fuel + 1, S, b, hS, hb, hf => by
    have h8 := hg.1
    have h2p : 2 ^ l 0 0 ≤ 2 ^ 8 := Nat.pow_le_pow_right (by omega) h8
    show S_X1_leastWatch_72 _ σ (nI (g_oc fl (l 0 2) 0 0)) (g_m1 b) (nI S) = _
    unfold S_X1_leastWatch_72
    rw [hl.2.1]
    dsimp only [Option.bind]
    rw [if_pos (ld_O hl.1), hl.2.2.1, pz_shl (by omega), if_pos (nI_le (by omega) (by omega))]
    rfl
  | n + 1, fuel + 1, S, b, hS, hb, hf => by
    have h8 := hg.1
    have h2p : 2 ^ l 0 0 ≤ 2 ^ 8 := Nat.pow_le_pow_right (by omega) h8
    have hoc : g_oc fl (l 0 2) 0 0 < 2 ^ 8 := g_oc_lt _ _ _ (fun i _ h2 => by have := hfl i (by omega); omega) (by decide)
    have eW : F_X1_watches σ (nI S) (nI (g_oc fl (l 0 2) 0 0)) = some (if g_wa l op fl S = true then 1 else 0, σ) := by
      unfold F_X1_watches
      rw [show (0 : Int32) = nI 0 from rfl, px_wsloop hg hl hN (by omega) (by omega) (l 0 0) sw_fuel 0 (by omega) (by have := sw_fuel_ge; omega), g_lw_oc hfl]
      rfl
    show S_X1_leastWatch_72 _ σ (nI (g_oc fl (l 0 2) 0 0)) (g_m1 b) (nI S) = _
    unfold S_X1_leastWatch_72 S_X1_leastWatch_116 S_X1_leastWatch_119
    rw [hl.2.1]
    dsimp only [Option.bind]
    rw [if_pos (ld_O hl.1), hl.2.2.1, pz_shl (by omega), if_neg (nI_ge (by omega) (by omega)), eW]
    dsimp only
    rw [nI_1]
    unfold g_lw
    by_cases h : g_wa l op fl S = true
    · rw [if_pos h, if_neg pz_10]
      by_cases e : b = 0
      · rw [if_pos (show g_m1 b = -1 from by rw [e]; rfl), if_pos ⟨h, Or.inl e⟩]
        have := px_lwloop hg hl hN hfl n fuel (S + 1) (S + 1) (by omega) (by omega) (by omega)
        rw [g_m1_s S] at this
        exact this
      · have e1 : g_m1 b = nI (b - 1) := by unfold g_m1; rw [if_neg e]
        rw [if_neg (show ¬ g_m1 b = -1 from by rw [e1]; exact pz_nm1 (by omega)), px_bc (by omega)]
        dsimp only
        rw [e1, px_bc (by omega)]
        dsimp only
        have p1 := g_pc_le S
        have p2 := g_pc_le (b - 1)
        by_cases e2 : g_pc S < g_pc (b - 1)
        · rw [if_neg (nI_ge e2 (by omega)), if_pos ⟨h, Or.inr e2⟩]
          have := px_lwloop hg hl hN hfl n fuel (S + 1) (S + 1) (by omega) (by omega) (by omega)
          rw [g_m1_s S] at this
          exact this
        · rw [if_pos (nI_le (by omega) (by omega)), if_neg (fun z => by rcases z.2 with z | z <;> omega), ← e1]
          exact px_lwloop hg hl hN hfl n fuel (S + 1) b (by omega) (by omega) (by omega)
    · rw [if_neg h, if_pos rfl, if_neg (fun z => h z.1)]
      exact px_lwloop hg hl hN hfl n fuel (S + 1) b (by omega) (by omega) (by omega)
theorem px_lwin {n : Nat} {w : Nat} {l : Nat → Nat → Nat} {P : Nat → List Nat} {nm : g_N} {D : g_D} {U : List g_D} {F : List (Nat × Nat × Nat)} {T : List Nat} {sd : Nat} {rf : Nat → Int32} {ft : Int32 × Int32} {im : List Nat} (hg : g_ld l P) (hd : g_dk l D) (hn : n ≤ 60) (hdn : D.1 0 + n ≤ 999) : ∀ (k fuel s occ : Nat) (σ : sw_St), RX σ w l P nm D U F T sd rf ft im → s + k = l 0 2 → k < fuel →
    ∃ σ', L_X1_leastWatch_4 fuel σ (nI n) (nI occ) (nI s) = (F_X1_fillNear σ').bind (fun q => L_X1_leastWatch_72 sw_fuel q.2 (nI (g_oc (fun t => g_go l P (fun k => (D.1 2).testBit k) (l 3 (2 * t + 1)) t n (D.1 0) (D.2.1 t) 0) k s occ)) (-1) 0) ∧ RX σ' w l P nm D U F T sd rf ft im
  | 0, fuel + 1, s, occ, σ, h, hk, hf => by
    have h6 := hg.2.2.1
    refine ⟨σ, ?_, h⟩
    show S_X1_leastWatch_4 _ σ (nI n) (nI occ) (nI s) = _
    unfold S_X1_leastWatch_4
    rw [h.1.2.1]
    dsimp only [Option.bind]
    rw [if_pos (ld_O h.1.1), h.1.2.2.2.2.1, if_pos (nI_le (by omega) (by omega))]
    rfl
  | k + 1, fuel + 1, s, occ, σ, h, hk, hf => by
    have h6 := hg.2.2.1
    have h8 := hg.1
    have h10 := hg.2.1
    have hs : s < l 0 2 := by omega
    obtain ⟨hr, hf0⟩ := hd.2.2.2.1 s hs
    have h2p : 2 ^ l 0 1 ≤ 2 ^ 10 := Nat.pow_le_pow_right (by omega) h10
    have hoL := hd.2.2.1
    obtain ⟨σ1, p1, p2, p3⟩ := px_copyOne (h.2.2.2.1.vw (Or.inl rfl) hs h6)
    obtain ⟨σ2, q1, q2, q3, q4, q5⟩ := px_goOn (B := []) (N := n) hg (show D.1 2 < 1024 by omega) (by simp) (by omega) n sw_fuel 0 (D.1 0) (D.2.1 s) _ (h.1.mv p3 (by decide)) p2 hr hf0 trivial (by rw [p3.r (by decide)]; exact h.2.2.2.2.2.2.2.2.2.2.2.1) (by omega) (by have := sw_fuel_ge; omega) hdn
    have h' := h.mv ((p3.mono (by decide)).trans (q3.mono (by decide))) q5
    have hgo := (g_go_rk (op := fun k => (D.1 2).testBit k) (s := s) hg n (D.1 0) _ hr hf0).2
    obtain ⟨σ3, r1, r2⟩ := px_lwin hg hd hn hdn k fuel (s + 1) (occ ||| 2 ^ g_go l P (fun k => (D.1 2).testBit k) (l 3 (2 * s + 1)) s n (D.1 0) (D.2.1 s) 0) σ2 h' (by omega) (by omega)
    refine ⟨σ3, ?_, r2⟩
    show S_X1_leastWatch_4 _ σ (nI n) (nI occ) (nI s) = _
    unfold S_X1_leastWatch_4 F_X2_goOn
    rw [h.1.2.1]
    dsimp only [Option.bind]
    rw [if_pos (ld_O h.1.1), h.1.2.2.2.2.1, if_neg (nI_ge hs (by omega)), p1]
    dsimp only
    rw [show (0 : Int32) = nI 0 from rfl, q1]
    dsimp only
    rw [if_pos (pz_inb (by omega) (by omega)), nI_clamp (by omega), show σ2.1 47 s = _ from q2.2.2.2.2.1, pz_shl (by omega), fa_or, nI_1]
    exact r1
/-- the reference -/
theorem pm_w6loop {τ : sw_St} {l : Nat → Nat → Nat} {P : Nat → List Nat} {op : Nat → Bool} {fl : Nat → Nat} {c26 : sw_St → Int32 → Int32 → Option (Int32 × sw_St)} {x2 : Int32} {S : Nat} (hg : g_ld l P) (hl : pm_ld τ l P) (ho : pm_op τ l op) (hfl : ∀ s, s < l 0 2 → fl s < l 0 0 ∧ τ.1 37 (12 + 12 * s) = nI (fl s)) (hS : S < 256) : ∀ (n fuel s : Nat), s + n = l 0 2 → n < fuel → L_X11_watch_61 c26 fuel τ x2 (nI S) 1 (nI s) = S_X11_watch_103 c26 τ x2 (nI S) (if g_all (fun s => decide (g_nw l op (fl s) &&& S ≠ 0)) n s = true then 1 else 0)
  | 0, fuel + 1, s, hs, hf => by
    have h6 := hg.2.2.1
    show S_X11_watch_61 c26 _ τ x2 (nI S) 1 (nI s) = _
    unfold S_X11_watch_61 F_X11_sheepMany
    dsimp only [Option.bind]
    rw [hl.2.2.1, if_pos (nI_le (by omega) (by omega))]
    rfl
  | n + 1, fuel + 1, s, hs, hf => by
    have h6 := hg.2.2.1
    have h8 := hg.1
    obtain ⟨f1, f2⟩ := hfl s (by omega)
    have eF : F_X11_fieldOf τ (nI s) = some (nI (fl s), τ) := by
      unfold F_X11_fieldOf
      rw [show (12 : Int32) + 12 * nI s = nI (12 + 12 * s) from by rw [show (12 : Int32) = nI 12 from rfl, pk_mul, nI_add], if_pos (pz_inb (by omega) (by omega)), nI_clamp (by omega), f2]
    show S_X11_watch_61 c26 _ τ x2 (nI S) 1 (nI s) = _
    unfold S_X11_watch_61 S_X11_watch_95 F_X11_sheepMany
    dsimp only [Option.bind]
    rw [hl.2.2.1, if_neg (nI_ge (by omega) (by omega)), if_neg pz_10, eF]
    dsimp only
    rw [pm_watchers hg hl ho (by omega)]
    dsimp only
    rw [fa_and, nI_1, g_all_s]
    (try dsimp only)
    by_cases e : g_nw l op (fl s) &&& S = 0
    · rw [if_pos ((g_nI0 (g_and_lt _ hS)).mpr e)]
      have e2 : (decide (g_nw l op (fl s) &&& S ≠ 0) && g_all (fun s => decide (g_nw l op (fl s) &&& S ≠ 0)) n (s + 1)) = false := by simp [e]
      rw [e2, if_neg (by decide)]
      cases fuel with
      | zero => omega
      | succ fuel =>
        show S_X11_watch_61 c26 _ τ x2 (nI S) 0 (nI (s + 1)) = _
        unfold S_X11_watch_61 F_X11_sheepMany
        dsimp only [Option.bind]
        rw [if_pos rfl]
        by_cases e3 : τ.1 28 5 ≤ nI (s + 1)
        · rw [if_pos e3]
        · rw [if_neg e3]
    · rw [if_neg (fun z => e ((g_nI0 (g_and_lt _ hS)).mp z)), pm_w6loop hg hl ho hfl hS n fuel (s + 1) (by omega) (by omega), show decide (g_nw l op (fl s) &&& S ≠ 0) = true from decide_eq_true e, Bool.true_and]
theorem pm_lwloop {τ τ' : sw_St} {l : Nat → Nat → Nat} {P : Nat → List Nat} {op : Nat → Bool} {fl : Nat → Nat} (hg : g_ld l P) (hl : pm_ld τ l P) (ho : pm_op τ l op) (hfl : ∀ s, s < l 0 2 → fl s < l 0 0 ∧ τ.1 37 (12 + 12 * s) = nI (fl s)) (hb' : F_X11_takesBack τ = some ((), τ')) : ∀ (n fuel S b : Nat), S + n = 2 ^ l 0 0 → b ≤ S → n < fuel → L_X11_watch_26 fuel τ (g_m1 b) (nI S) = some (g_m1 (g_lw (g_wa l op fl) n S b), τ')
  | 0, fuel + 1, S, b, hS, hb, hf => by
    have h8 := hg.1
    have h2p : 2 ^ l 0 0 ≤ 2 ^ 8 := Nat.pow_le_pow_right (by omega) h8
    show S_X11_watch_26 _ τ (g_m1 b) (nI S) = _
    unfold S_X11_watch_26 F_X11_fieldMany
    dsimp only [Option.bind]
    rw [hl.1, pz_shl (by omega), if_pos (nI_le (by omega) (by omega)), hb']
    rfl
  | n + 1, fuel + 1, S, b, hS, hb, hf => by
    have h8 := hg.1
    have h2p : 2 ^ l 0 0 ≤ 2 ^ 8 := Nat.pow_le_pow_right (by omega) h8
    have e6 := pm_w6loop (c26 := fun σ x2 x3 => L_X11_watch_26 fuel σ x2 x3) (x2 := g_m1 b) (S := S) hg hl ho hfl (by omega) (l 0 2) sw_fuel 0 (by omega) (by have := sw_fuel_ge; have := hg.2.2.1; omega)
    have e55 : S_X11_watch_55 (fun σ x2 x3 => L_X11_watch_26 fuel σ x2 x3) τ (g_m1 b) (nI S) = L_X11_watch_26 fuel τ (if g_wa l op fl S = true then g_m1 (S + 1) else g_m1 b) (nI (S + 1)) := by
      unfold S_X11_watch_55
      rw [show (0 : Int32) = nI 0 from rfl, show L_X11_watch_61 (fun σ x2 x3 => L_X11_watch_26 fuel σ x2 x3) sw_fuel τ (g_m1 b) (nI S) 1 (nI 0) = _ from e6]
      unfold S_X11_watch_103 S_X11_watch_110
      rw [show g_all (fun s => decide (g_nw l op (fl s) &&& S ≠ 0)) (l 0 2) 0 = g_wa l op fl S from rfl, nI_1, g_m1_s]
      by_cases e : g_wa l op fl S = true
      · rw [if_pos e, if_pos e, if_neg pz_10]
      · rw [if_neg e, if_neg e, if_pos rfl]
    show S_X11_watch_26 _ τ (g_m1 b) (nI S) = _
    unfold S_X11_watch_26 F_X11_fieldMany
    dsimp only [Option.bind]
    rw [hl.1, pz_shl (by omega), if_neg (nI_ge (by omega) (by omega)), e55]
    unfold g_lw
    by_cases e : b = 0
    · rw [if_pos (show g_m1 b = -1 from by rw [e]; rfl)]
      by_cases h : g_wa l op fl S = true
      · rw [if_pos h, if_pos ⟨h, Or.inl e⟩]
        exact pm_lwloop hg hl ho hfl hb' n fuel (S + 1) (S + 1) (by omega) (by omega) (by omega)
      · rw [if_neg h, if_neg (fun z => h z.1)]
        exact pm_lwloop hg hl ho hfl hb' n fuel (S + 1) b (by omega) (by omega) (by omega)
    · have e1 : g_m1 b = nI (b - 1) := by unfold g_m1; rw [if_neg e]
      have e2 : F_X11_bits τ (g_m1 b) = some (nI (g_pc (b - 1)), τ) := by rw [e1]; exact pm_bits (by omega)
      rw [if_neg (show ¬ g_m1 b = -1 from by rw [e1]; exact pz_nm1 (by omega)), pm_bits (by omega)]
      dsimp only
      rw [e2]
      dsimp only
      have p1 := g_pc_le S
      have p2 := g_pc_le (b - 1)
      by_cases e3 : g_pc S < g_pc (b - 1)
      · rw [if_pos (show nI (g_pc S) < nI (g_pc (b - 1)) from by rw [fa_lt, nI_toInt (by omega), nI_toInt (by omega)]; omega)]
        by_cases h : g_wa l op fl S = true
        · rw [e55, if_pos h, if_pos ⟨h, Or.inr e3⟩]
          exact pm_lwloop hg hl ho hfl hb' n fuel (S + 1) (S + 1) (by omega) (by omega) (by omega)
        · rw [e55, if_neg h, if_neg (fun z => h z.1)]
          exact pm_lwloop hg hl ho hfl hb' n fuel (S + 1) b (by omega) (by omega) (by omega)
      · rw [if_neg (show ¬ nI (g_pc S) < nI (g_pc (b - 1)) from by rw [fa_lt, nI_toInt (by omega), nI_toInt (by omega)]; omega), if_neg (fun z => by rcases z.2 with z | z <;> omega)]
        unfold S_X11_watch_110
        rw [nI_1]
        exact pm_lwloop hg hl ho hfl hb' n fuel (S + 1) b (by omega) (by omega) (by omega)
theorem op_20 : ll_20 RR := by
  intro x m hR a
  obtain ⟨w, l, P, nm, D, U, F, T, sd, rf, ft, im, hG, hX, hM⟩ := hR
  have hR : RR x m := ⟨w, l, P, nm, D, U, F, T, sd, rf, ft, im, hG, hX, hM⟩
  have hd := hG.2.2.1.1
  have h8 := hG.1.1
  have h10 := hG.1.2.1
  have h2p : 2 ^ l 0 0 ≤ 2 ^ 8 := Nat.pow_le_pow_right (by omega) h8
  have h2q : 2 ^ l 0 1 ≤ 2 ^ 10 := Nat.pow_le_pow_right (by omega) h10
  have hoL := hG.2.2.1.2.2.1
  have hfu := sw_fuel_ge
  unfold F_X10_watch F_X11_watch S_X10_watch_22
  rw [show (60 : Int32) = nI 60 from rfl, show F_X11_isAhead m a 0 (nI 60) = _ from pm_ahead (lo := 0) hd (by omega) (by omega) hM.2.2.1.1, px_can hd (by omega) hX.2.2.2.1.1]
  dsimp only [Option.bind]
  by_cases h : g_cm a 0 60 (D.1 0) = true
  · obtain ⟨n, hn1, hn2, hn3, rfl⟩ := g_cm_of h
    rw [if_pos h, if_neg pz_10, if_neg pz_10]
    obtain ⟨τ1, r1, r2, r3, r4⟩ := pm_aside m
    have tv := hM.tv hG.1 r3 r4
    obtain ⟨τ2, q1, q2, q3, q4, q5⟩ := pm_tdays (N := n) hG.1 (by omega) n sw_fuel 0 (D.1 0) _ τ1 tv (fun t ht => hG.2.2.1.2.2.2.1 t ht) (by omega) (by omega) (by omega)
    obtain ⟨τ3, u1, u2, u3, u4, u5, u6⟩ := pm_back τ2
    have hM' := hM.back r2 r3 q3 (by decide) (by decide) (fun i hi => q4 i hi) u2 u3 u4 u5 u6
    have hfl : ∀ s, s < l 0 2 → (fun t => g_go l P (fun k => (D.1 2).testBit k) (l 3 (2 * t + 1)) t n (D.1 0) (D.2.1 t) 0) s < l 0 0 := fun s hs => (g_go_rk hG.1 n (D.1 0) _ (hG.2.2.1.2.2.2.1 s hs).1 (hG.2.2.1.2.2.2.1 s hs).2).2
    have eM := pm_lwloop (fl := fun t => g_go l P (fun k => (D.1 2).testBit k) (l 3 (2 * t + 1)) t n (D.1 0) (D.2.1 t) 0) hG.1 q2.1 q2.2.1 (fun s hs => ⟨hfl s hs, (q2.2.2.1 s hs).2.2.1 0 (by omega)⟩) u1 (2 ^ l 0 0) sw_fuel 0 0 (by omega) (by omega) (by omega)
    obtain ⟨σ1, p1, p2⟩ := px_lwin hG.1 hG.2.2.1 hn2 hn3 (l 0 2) sw_fuel 0 0 x hX (by omega) (by have := hG.1.2.2.1; omega)
    obtain ⟨σ2, s1, s2, s3⟩ := px_fillNear hG.1 (show D.1 2 < 1024 by omega) p2.1 p2.2.2.2.1.2.2.1
    have hX' := p2.mv (s3.mono (by decide)) (by rw [s3.r (by decide)]; exact p2.2.2.2.2.2.2.2.2.2.2.2.1)
    have eX := px_lwloop hG.1 hX'.1 s2 hfl (2 ^ l 0 0) sw_fuel 0 0 (by omega) (by omega) (by omega)
    have eL : F_X1_leastWatch x (nI n) = some (g_m1 (g_lw (g_wa l (fun k => (D.1 2).testBit k) (fun t => g_go l P (fun k => (D.1 2).testBit k) (l 3 (2 * t + 1)) t n (D.1 0) (D.2.1 t) 0)) (2 ^ l 0 0) 0 0), σ2) := by
      unfold F_X1_leastWatch
      rw [show (0 : Int32) = nI 0 from rfl, p1, s1]
      exact eX
    have eD : F_X11_daysGo τ1 (nI n) = some ((), τ2) := by
      unfold F_X11_daysGo
      exact q1
    rw [eL, r1]
    dsimp only
    rw [eD]
    exact ⟨_, σ2, τ3, rfl, eM, w, l, P, nm, D, U, F, T, sd, rf, ft, im, hG, hX', hM'⟩
  · rw [if_neg h, if_pos rfl, if_pos rfl]
    exact ⟨-1, x, m, rfl, rfl, hR⟩

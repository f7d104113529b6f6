/-! In how many ways. -/
def g_sL (g : Nat → Int64) : Nat → Int64
  | 0 => 0
  | n + 1 => g_sL g n + g n
theorem g_sL_ext {g h : Nat → Int64} : ∀ n, (∀ i, i < n → g i = h i) → g_sL g n = g_sL h n
  | 0, _ => rfl
  | n + 1, e => by
    show g_sL g n + g n = g_sL h n + h n
    rw [g_sL_ext n (fun i hi => e i (by omega)), e n (by omega)]
theorem g_sL_add (g h : Nat → Int64) : ∀ n, g_sL (fun i => g i + h i) n = g_sL g n + g_sL h n
  | 0 => (Int64.add_zero 0).symm
  | n + 1 => by
    show g_sL (fun i => g i + h i) n + (g n + h n) = (g_sL g n + g n) + (g_sL h n + h n)
    rw [g_sL_add g h n, Int64.add_assoc, Int64.add_assoc, ← Int64.add_assoc (g_sL h n), Int64.add_comm (g_sL h n) (g n), Int64.add_assoc]
theorem g_sL_zero : ∀ n, g_sL (fun _ => 0) n = 0
  | 0 => rfl
  | n + 1 => by
    show g_sL (fun _ => 0) n + 0 = 0
    rw [g_sL_zero n]
    decide
theorem g_sL_swap (g : Nat → Nat → Int64) (m : Nat) : ∀ n, g_sL (fun i => g_sL (g i) m) n = g_sL (fun j => g_sL (fun i => g i j) n) m
  | 0 => (g_sL_zero m).symm
  | n + 1 => by
    show g_sL (fun i => g_sL (g i) m) n + g_sL (g n) m = g_sL (fun j => g_sL (fun i => g i j) n + g n j) m
    rw [g_sL_swap g m n, g_sL_add]
theorem g_sL_one {a : Nat} {x : Int64} : ∀ n, g_sL (fun f => if f = a then x else 0) n = if a < n then x else 0
  | 0 => rfl
  | n + 1 => by
    show g_sL (fun f => if f = a then x else 0) n + (if n = a then x else 0) = _
    rw [g_sL_one n]
    by_cases e : n = a
    · rw [if_neg (by omega), if_pos e, if_pos (by omega), Int64.zero_add]
    · by_cases e2 : a < n
      · rw [if_pos e2, if_neg e, if_pos (by omega), Int64.add_zero]
      · rw [if_neg e2, if_neg e, if_neg (by omega), Int64.add_zero]
def g_tg (k b r : Nat) : Nat := 64 * b + (3 * r + k + 1) % 64
theorem g_tg_lt {k b r : Nat} (hb : b < 8) : g_tg k b r < 512 := by
  unfold g_tg
  omega
def g_tm (old : Nat → Int64) (k a b i r : Nat) : Int64 := if i = g_tg k b r then old (64 * a + r) else 0
def g_cnt (old : Nat → Int64) (k a b i : Nat) : Int64 := g_sL (g_tm old k a b i) 64
def g_G (l : Nat → Nat → Nat) (opn : Nat) (old : Nat → Int64) (i k : Nat) : Int64 := if opn.testBit k = true then g_cnt old k (l 2 (3 * k)) (l 2 (3 * k + 1)) i + g_cnt old k (l 2 (3 * k + 1)) (l 2 (3 * k)) i else 0
def g_H (l : Nat → Nat → Nat) (opn : Nat) (old : Nat → Int64) (i f k : Nat) : Int64 := match (if opn.testBit k = true then g_bey l k f else none) with
  | none => 0
  | some b => g_cnt old k f b i
def g_wn (l : Nat → Nat → Nat) (opn : Nat) (old : Nat → Int64) (i : Nat) : Int64 := g_sL (g_G l opn old i) (l 0 1)
theorem g_wn_H {l : Nat → Nat → Nat} {P : Nat → List Nat} {opn i : Nat} {old : Nat → Int64} (hg : g_ld l P) : g_sL (fun f => g_sL (g_H l opn old i f) (l 0 1)) (l 0 0) = g_wn l opn old i := by
  rw [g_sL_swap]
  unfold g_wn
  refine g_sL_ext _ (fun k hk => ?_)
  obtain ⟨h1, h2, h3, -⟩ := hg.2.2.2.2.2.1 k hk
  unfold g_G
  by_cases h : opn.testBit k = true
  · rw [if_pos h]
    have e : ∀ f, f < l 0 0 → g_H l opn old i f k = (if f = l 2 (3 * k) then g_cnt old k (l 2 (3 * k)) (l 2 (3 * k + 1)) i else 0) + (if f = l 2 (3 * k + 1) then g_cnt old k (l 2 (3 * k + 1)) (l 2 (3 * k)) i else 0) := fun f _ => by
      unfold g_H
      rw [if_pos h]
      unfold g_bey
      by_cases e1 : l 2 (3 * k) = f
      · rw [if_pos e1, if_pos e1.symm, if_neg (by omega), Int64.add_zero, ← e1]
      · by_cases e2 : l 2 (3 * k + 1) = f
        · rw [if_neg e1, if_pos e2, if_neg (by omega), if_pos e2.symm, Int64.zero_add, ← e2]
        · rw [if_neg e1, if_neg e2, if_neg (by omega), if_neg (by omega)]
          rfl
    rw [g_sL_ext _ e, g_sL_add, g_sL_one, g_sL_one, if_pos h1, if_pos h2]
  · rw [if_neg h]
    have e : ∀ f, f < l 0 0 → g_H l opn old i f k = (fun _ => 0) f := fun f _ => by
      unfold g_H
      rw [if_neg h]
    rw [g_sL_ext _ e, g_sL_zero]
/-- the class: the places of the two tables -/
def px_pq (σ : sw_St) (p q : Nat) : Prop := σ.2.2 54 10 = some p ∧ σ.2.2 54 11 = some q ∧ ((p = 60 ∧ q = 61) ∨ (p = 61 ∧ q = 60))
theorem px_pq.mv {σ σ' : sw_St} {p q : Nat} (h : px_pq σ p q) {S : List Nat} (m : pz_sm S σ σ') (hS : 54 ∉ S) : px_pq σ' p q := by
  unfold px_pq
  rw [m.rR hS, m.rR hS]
  exact h
theorem px_pqA {p q : Nat} (h : (p = 60 ∧ q = 61) ∨ (p = 61 ∧ q = 60)) : (sw_isA sw_gX p 3 = true ∧ sw_ln sw_gX p = 512) ∧ sw_isA sw_gX q 3 = true ∧ sw_ln sw_gX q = 512 := by
  rcases h with ⟨rfl, rfl⟩ | ⟨rfl, rfl⟩ <;> decide +kernel
theorem px_tgI {k b r : Nat} (hk : k < 10) (hb : b < 8) (hr : r < 64) : nI b * 64 + ((3 * nI r + nI k + 1) - (3 * nI r + nI k + 1) / 64 * 64) = nI (g_tg k b r) := by
  rw [show (3 : Int32) = nI 3 from rfl, show (64 : Int32) = nI 64 from rfl, pk_mul, pk_mul, nI_add, nI_1, pk_rem (by omega) (by omega) (by omega), nI_add, Nat.mul_comm b 64]
  rfl
theorem px_ldE {p q a b k : Nat} {old base : Nat → Int64} (hk : k < 10) (ha : a < 8) (hb : b < 8) : ∀ (n fuel r : Nat) (σ : sw_St), px_pq σ p q → (∀ i, i < 512 → σ.2.1 p i = old i) → (∀ i, i < 512 → σ.2.1 q i = base i + g_sL (g_tm old k a b i) r) → r + n = 64 → n < fuel →
    ∃ σ', L_X1_leadEnds_3 fuel σ (nI a) (nI b) (nI k) (nI r) = some ((), σ') ∧ pz_sm [q] σ σ' ∧ ∀ i, i < 512 → σ'.2.1 q i = base i + g_cnt old k a b i
  | 0, fuel + 1, r, σ, h, ho, hv, hr, hf => by
    refine ⟨σ, ?_, pz_sm.refl _ _, fun i hi => by rw [hv i hi, show r = 64 by omega]; rfl⟩
    show S_X1_leadEnds_3 _ σ (nI a) (nI b) (nI k) (nI r) = _
    unfold S_X1_leadEnds_3
    rw [if_pos (show (64 : Int32) ≤ nI r from nI_le (a := 64) (by omega) (by omega))]
  | n + 1, fuel + 1, r, σ, h, ho, hv, hr, hf => by
    have hA := px_pqA h.2.2
    have hne : p ≠ q := by have := h.2.2; omega
    have ht := g_tg_lt (k := k) (r := r) hb
    have m1 : pz_sm [q] σ (sw_uL σ q (g_tg k b r) (σ.2.1 q (g_tg k b r) + σ.2.1 p (64 * a + r))) := (pz_sm.refl _ σ).L (by simp) _ _
    have h54 : 54 ∉ [q] := by have := h.2.2; simp; omega
    obtain ⟨σ', p1, p2, p3⟩ := px_ldE (old := old) (base := base) hk ha hb n fuel (r + 1) _ (h.mv m1 h54) (fun i hi => by rw [pz_Lo hne]; exact ho i hi) (fun i hi => by
      show _ = base i + (g_sL (g_tm old k a b i) r + g_tm old k a b i r)
      by_cases e : i = g_tg k b r
      · rw [pz_Le rfl e, ← e, hv i hi, ho _ (by omega), Int64.add_assoc]
        congr 2
        unfold g_tm
        rw [if_pos e]
      · rw [pz_Lk e, hv i hi]
        unfold g_tm
        rw [if_neg e, Int64.add_zero]) (by omega) (by omega)
    refine ⟨σ', ?_, m1.trans p2, p3⟩
    show S_X1_leadEnds_3 _ σ (nI a) (nI b) (nI k) (nI r) = _
    unfold S_X1_leadEnds_3
    rw [if_neg (show ¬ (64 : Int32) ≤ nI r from nI_ge (b := 64) (by omega) (by omega)), h.2.1]
    dsimp only [Option.bind]
    rw [px_tgI hk hb (by omega), if_pos hA.2.1, hA.2.2, if_pos (pz_inb ht (by omega)), h.1]
    dsimp only
    rw [if_pos hA.1.1, hA.1.2, show nI a * 64 + nI r = nI (64 * a + r) from by rw [show (64 : Int32) = nI 64 from rfl, pk_mul, nI_add, Nat.mul_comm a 64], if_pos (pz_inb (show 64 * a + r < 512 by omega) (by omega)), if_pos hA.2.1, if_pos (pz_inb ht (by omega)), nI_clamp (show g_tg k b r < 2 ^ 31 by omega), nI_clamp (show 64 * a + r < 2 ^ 31 by omega), nI_1]
    exact p1
theorem px_lead {σ : sw_St} {p q a b k : Nat} {old base : Nat → Int64} (hk : k < 10) (ha : a < 8) (hb : b < 8) (h : px_pq σ p q) (ho : ∀ i, i < 512 → σ.2.1 p i = old i) (hv : ∀ i, i < 512 → σ.2.1 q i = base i) : ∃ σ', F_X1_leadEnds σ (nI a) (nI b) (nI k) = some ((), σ') ∧ pz_sm [q] σ σ' ∧ ∀ i, i < 512 → σ'.2.1 q i = base i + g_cnt old k a b i := by
  have := px_ldE (old := old) (base := base) hk ha hb 64 sw_fuel 0 σ h ho (fun i hi => by rw [hv i hi]; exact (Int64.add_zero _).symm) (by omega) (by have := sw_fuel_ge; omega)
  exact this
theorem px_c47 {w p q opn : Nat} {l : Nat → Nat → Nat} {P : Nat → List Nat} {old : Nat → Int64} {x2 x3 x5 : Int32} {c30 : sw_St → Int32 → Int32 → Nat → Int32 → Option (Int64 × sw_St)} (hg : g_ld l P) (hop : opn < 1024) : ∀ (n fuel k : Nat) (σ : sw_St), px_ld σ w l P → σ.1 38 2 = nI opn → px_pq σ p q → (∀ i, i < 512 → σ.2.1 p i = old i) → (∀ i, i < 512 → σ.2.1 q i = g_sL (g_G l opn old i) k) → k + n = l 0 1 → n < fuel →
    ∃ σ', L_X1_countWays_47 c30 fuel σ x2 x3 w x5 (nI k) = c30 (sw_uR (sw_uR σ' 54 10 (some q)) 54 11 (some p)) x2 x3 w (x5 + 1) ∧ pz_sm [q] σ σ' ∧ ∀ i, i < 512 → σ'.2.1 q i = g_wn l opn old i
  | 0, fuel + 1, k, σ, hl, h2, h, ho, hv, hk, hf => by
    have h10 := hg.2.1
    refine ⟨σ, ?_, pz_sm.refl _ _, fun i hi => by rw [hv i hi, show k = l 0 1 by omega]; rfl⟩
    show S_X1_countWays_47 c30 _ σ x2 x3 w x5 (nI k) = _
    unfold S_X1_countWays_47
    rw [if_pos (ld_O hl.1), hl.2.2.2.1, if_pos (nI_le (by omega) (by omega)), h.1, h.2.1]
    rfl
  | n + 1, fuel + 1, k, σ, hl, h2, h, ho, hv, hk, hf => by
    have h10 := hg.2.1
    have h8 := hg.1
    have hk1 : k < l 0 1 := by omega
    obtain ⟨b1, b2, b3, b4⟩ := hg.2.2.2.2.2.1 k hk1
    have hw := hl.1
    have hq6 : ∀ o ∈ [q], 32 ≤ o ∧ o ≠ 33 := fun o ho => by
      have := h.2.2
      simp at ho
      omega
    have h54 : 54 ∉ [q] := by have := h.2.2; simp; omega
    have h38 : 38 ∉ [q] := by have := h.2.2; simp; omega
    have hne : p ∉ [q] := by have := h.2.2; simp; omega
    by_cases e : opn.testBit k = true
    · obtain ⟨c1, c2, c3⟩ := hl.2.2.2.2.2.2.2.1 k hk1
      obtain ⟨σ1, p1, p2, p3⟩ := px_lead (a := l 2 (3 * k)) (b := l 2 (3 * k + 1)) (k := k) (old := old) (base := fun i => g_sL (g_G l opn old i) k) (by omega) (by omega) (by omega) h ho hv
      have hl1 := hl.mv p2 hq6
      obtain ⟨d1, d2, d3⟩ := hl1.2.2.2.2.2.2.2.1 k hk1
      obtain ⟨σ2, q1, q2, q3⟩ := px_lead (a := l 2 (3 * k + 1)) (b := l 2 (3 * k)) (k := k) (old := old) (base := fun i => g_sL (g_G l opn old i) k + g_cnt old k (l 2 (3 * k)) (l 2 (3 * k + 1)) i) (by omega) (by omega) (by omega) (h.mv p2 h54) (fun i hi => by rw [p2.rL hne]; exact ho i hi) p3
      obtain ⟨σ3, r1, r2, r3⟩ := px_c47 (p := p) (q := q) (old := old) (x2 := x2) (x3 := x3) (x5 := x5) (c30 := c30) hg hop n fuel (k + 1) σ2 (hl1.mv q2 hq6) (by rw [q2.r h38, p2.r h38]; exact h2) ((h.mv p2 h54).mv q2 h54) (fun i hi => by rw [q2.rL hne, p2.rL hne]; exact ho i hi) (fun i hi => by
        rw [q3 i hi]
        show _ = g_sL (g_G l opn old i) k + g_G l opn old i k
        unfold g_G
        rw [if_pos e, Int64.add_assoc]) (by omega) (by omega)
      refine ⟨σ3, ?_, (p2.trans q2).trans r2, r3⟩
      show S_X1_countWays_47 c30 _ σ x2 x3 w x5 (nI k) = _
      unfold S_X1_countWays_47 S_X1_countWays_117
      have i10 : sw_inb (nI k) 10 = true := pz_inb (by omega) (by omega)
      have q1' : k < 2 ^ 31 := by omega
      rw [if_pos (ld_O hw), hl.2.2.2.1, if_neg (nI_ge (by omega) (by omega)), h2, px_bitN (by omega) (by omega), if_pos e, if_pos (show nI 1 = 1 from rfl)]
      simp only [ld_O hw, ld_A3 hw, ld_A4 hw, ld_n3 hw, ld_n4 hw, i10, if_true, nI_clamp q1', c1, c2]
      rw [p1]
      dsimp only [Option.bind]
      rw [d1, d2, q1]
      dsimp only
      rw [nI_1]
      exact r1
    · obtain ⟨σ3, r1, r2, r3⟩ := px_c47 (p := p) (q := q) (old := old) (x2 := x2) (x3 := x3) (x5 := x5) (c30 := c30) hg hop n fuel (k + 1) σ hl h2 h ho (fun i hi => by
        rw [hv i hi]
        show _ = g_sL (g_G l opn old i) k + g_G l opn old i k
        rw [show g_G l opn old i k = 0 from by unfold g_G; rw [if_neg e], Int64.add_zero]) (by omega) (by omega)
      refine ⟨σ3, ?_, r2, r3⟩
      show S_X1_countWays_47 c30 _ σ x2 x3 w x5 (nI k) = _
      unfold S_X1_countWays_47 S_X1_countWays_117
      rw [if_pos (ld_O hw), hl.2.2.2.1, if_neg (nI_ge (by omega) (by omega)), h2, px_bitN (by omega) (by omega), if_neg e, if_neg (show ¬ nI 0 = 1 from by decide), nI_1]
      exact r1
theorem px_fillL {q : Nat} (hA : sw_isA sw_gX q 3 = true) (hn : sw_ln sw_gX q = 512) : ∀ (n fuel k : Nat) (σ : sw_St), (∀ i, i < k → σ.2.1 q i = 0) → k + n = 512 → n < fuel → ∃ σ', L_J7_fill_d0a16_6 fuel σ q 0 (nI k) (nI 512) = some ((), σ') ∧ (∀ i, i < 512 → σ'.2.1 q i = 0) ∧ pz_sm [q] σ σ'
  | 0, fuel + 1, k, σ, h, hk, hf => by
    refine ⟨σ, ?_, fun i hi => h i (by omega), pz_sm.refl _ _⟩
    show S_J7_fill_d0a16_6 _ σ q 0 (nI k) (nI 512) = _
    unfold S_J7_fill_d0a16_6
    rw [if_pos (nI_le (by omega) (by omega))]
  | n + 1, fuel + 1, k, σ, h, hk, hf => by
    have m1 : pz_sm [q] σ (sw_uL σ q k 0) := (pz_sm.refl _ σ).L (by simp) _ _
    obtain ⟨σ', p1, p2, p3⟩ := px_fillL hA hn n fuel (k + 1) (sw_uL σ q k 0) (fun i hi => by
      by_cases e : i = k
      · rw [pz_Le rfl e]
      · rw [pz_Lk e]
        exact h i (by omega)) (by omega) (by omega)
    refine ⟨σ', ?_, p2, m1.trans p3⟩
    show S_J7_fill_d0a16_6 _ σ q 0 (nI k) (nI 512) = _
    unfold S_J7_fill_d0a16_6
    rw [if_neg (nI_ge (by omega) (by omega)), if_pos hA, hn, if_pos (pz_inb (by omega) (by omega)), nI_clamp (by omega), nI_1]
    exact p1
theorem px_fill {q : Nat} {σ : sw_St} (hA : sw_isA sw_gX q 3 = true) (hn : sw_ln sw_gX q = 512) : ∃ σ', F_J7_fill_d0a16 σ q 0 = some ((), σ') ∧ (∀ i, i < 512 → σ'.2.1 q i = 0) ∧ pz_sm [q] σ σ' := by
  obtain ⟨σ', p1, p2⟩ := px_fillL hA hn 512 sw_fuel 0 σ (fun i hi => by omega) (by omega) (by have := sw_fuel_ge; omega)
  refine ⟨σ', ?_, p2⟩
  unfold F_J7_fill_d0a16
  rw [hA, Bool.or_true, if_pos rfl, hn]
  exact p1
theorem RX.sw {σ : sw_St} {p q : Nat} {w : Nat} {l : Nat → Nat → Nat} {P : Nat → List Nat} {nm : g_N} {D : g_D} {U : List g_D} {F : List (Nat × Nat × Nat)} {T : List Nat} {sd : Nat} {rf : Nat → Int32} {ft : Int32 × Int32} {im : List Nat} (h : RX σ w l P nm D U F T sd rf ft im) (hp : (p = 60 ∧ q = 61) ∨ (p = 61 ∧ q = 60)) : RX (sw_uR (sw_uR σ 54 10 (some q)) 54 11 (some p)) w l P nm D U F T sd rf ft im := by
  have m : pz_sm [54] σ (sw_uR (sw_uR σ 54 10 (some q)) 54 11 (some p)) := fun o ho => by
    have ho' : o ≠ 54 := by simpa using ho
    refine ⟨rfl, rfl, ?_⟩
    unfold sw_uR
    simp [ho']
  have e10 : (sw_uR (sw_uR σ 54 10 (some q)) 54 11 (some p)).2.2 54 10 = some q := by
    unfold sw_uR vf_upd
    simp
  have e11 : (sw_uR (sw_uR σ 54 10 (some q)) 54 11 (some p)).2.2 54 11 = some p := by
    unfold sw_uR vf_upd
    simp
  refine h.gen m (by decide) (m.rR (by decide) 4) (h.2.2.2.1.mv (fun _ _ => rfl)) (h.2.2.2.2.1.mv m (by decide)) (h.2.2.2.2.2.1.mv rfl rfl) (h.2.2.2.2.2.2.1.mv rfl rfl) h.2.2.2.2.2.2.2.1 h.2.2.2.2.2.2.2.2.1 h.2.2.2.2.2.2.2.2.2.1 (h.2.2.2.2.2.2.2.2.2.2.1.mv rfl rfl) h.2.2.2.2.2.2.2.2.2.2.2.1 ?_
  unfold XP
  rw [e10, e11]
  rcases hp with ⟨rfl, rfl⟩ | ⟨rfl, rfl⟩
  · exact Or.inr ⟨rfl, rfl⟩
  · exact Or.inl ⟨rfl, rfl⟩
theorem px_pq.sw {σ : sw_St} {p q : Nat} (h : px_pq σ p q) : px_pq (sw_uR (sw_uR σ 54 10 (some q)) 54 11 (some p)) q p := by
  refine ⟨?_, ?_, by have := h.2.2; omega⟩
  · unfold sw_uR vf_upd
    simp
  · unfold sw_uR vf_upd
    simp
theorem px_c155 {σ : sw_St} {w p q j : Nat} {l : Nat → Nat → Nat} {P : Nat → List Nat} {T : Nat → Int64} (hg : g_ld l P) (hl : px_ld σ w l P) (h : px_pq σ p q) (hT : ∀ i, i < 512 → σ.2.1 p i = T i) (hj : j < 64) : ∀ (n fuel f : Nat), f + n = l 0 0 → n < fuel → L_X1_countWays_155 fuel σ (nI j) w (g_sL (fun f => T (64 * f + j)) f) (nI f) = some (g_sL (fun f => T (64 * f + j)) (l 0 0), σ)
  | 0, fuel + 1, f, hf, hfu => by
    have h8 := hg.1
    show S_X1_countWays_155 _ σ (nI j) w _ (nI f) = _
    unfold S_X1_countWays_155
    rw [if_pos (ld_O hl.1), hl.2.2.1, if_pos (nI_le (by omega) (by omega)), show f = l 0 0 by omega]
  | n + 1, fuel + 1, f, hf, hfu => by
    have h8 := hg.1
    have hA := px_pqA h.2.2
    show S_X1_countWays_155 _ σ (nI j) w _ (nI f) = _
    unfold S_X1_countWays_155
    rw [if_pos (ld_O hl.1), hl.2.2.1, if_neg (nI_ge (by omega) (by omega)), h.1]
    dsimp only [Option.bind]
    rw [if_pos hA.1.1, hA.1.2, show nI f * 64 + nI j = nI (64 * f + j) from by rw [show (64 : Int32) = nI 64 from rfl, pk_mul, nI_add, Nat.mul_comm f 64], if_pos (pz_inb (show 64 * f + j < 512 by omega) (by omega)), nI_clamp (show 64 * f + j < 2 ^ 31 by omega), hT _ (by omega), nI_1]
    exact px_c155 hg hl h hT hj n fuel (f + 1) (by omega) (by omega)
def g_wk (l : Nat → Nat → Nat) (opn : Nat) : Nat → (Nat → Int64) → (Nat → Int64)
  | 0, T => T
  | n + 1, T => g_wk l opn n (g_wn l opn T)
theorem px_c30 {w : Nat} {l : Nat → Nat → Nat} {P : Nat → List Nat} {nm : g_N} {D : g_D} {U : List g_D} {F : List (Nat × Nat × Nat)} {T : List Nat} {sd : Nat} {rf : Nat → Int32} {ft : Int32 × Int32} {im : List Nat} {N j : Nat} (hg : g_ld l P) (hd : g_dk l D) (hj : j < 64) (hN : N ≤ 12) : ∀ (n fuel k : Nat) (tb : Nat → Int64) (p q : Nat) (σ : sw_St), RX σ w l P nm D U F T sd rf ft im → px_pq σ p q → (∀ i, i < 512 → σ.2.1 p i = tb i) → k + n = N → n < fuel →
    ∃ σ', L_X1_countWays_30 fuel σ (nI N) (nI j) w (nI k) = some (g_sL (fun f => g_wk l (D.1 2) n tb (64 * f + j)) (l 0 0), σ') ∧ RX σ' w l P nm D U F T sd rf ft im
  | 0, fuel + 1, k, tb, p, q, σ, h, hp, ht, hk, hf => by
    refine ⟨σ, ?_, h⟩
    show S_X1_countWays_30 _ σ (nI N) (nI j) w (nI k) = _
    unfold S_X1_countWays_30
    rw [if_pos (nI_le (by omega) (by omega))]
    exact px_c155 hg h.1 hp ht hj (l 0 0) sw_fuel 0 (by omega) (by have := sw_fuel_ge; have := hg.1; omega)
  | n + 1, fuel + 1, k, tb, p, q, σ, h, hp, ht, hk, hf => by
    have h10 := hg.2.1
    have hA := px_pqA hp.2.2
    have h2p : 2 ^ l 0 1 ≤ 2 ^ 10 := Nat.pow_le_pow_right (by omega) h10
    have hoL := hd.2.2.1
    have hq6 : ∀ o ∈ [q], 32 ≤ o ∧ o ≠ 33 := fun o ho => by
      have := hp.2.2
      simp at ho
      omega
    have h54 : 54 ∉ [q] := by have := hp.2.2; simp; omega
    have h38 : 38 ∉ [q] := by have := hp.2.2; simp; omega
    have h34 : 34 ∉ [q] := by have := hp.2.2; simp; omega
    have hne : p ∉ [q] := by have := hp.2.2; simp; omega
    have hsc : ∀ o ∈ [q], o ∈ px_scr := fun o ho => by
      simp at ho
      rcases hp.2.2 with ⟨_, e⟩ | ⟨_, e⟩
      · rw [ho, e]
        decide
      · rw [ho, e]
        decide
    obtain ⟨σ1, p1, p2, p3⟩ := px_fill (σ := σ) hA.2.1 hA.2.2
    have h1 := h.mv (p3.mono hsc) (by rw [p3.r h34]; exact h.2.2.2.2.2.2.2.2.2.2.2.1)
    obtain ⟨σ2, q1, q2, q3⟩ := px_c47 (opn := D.1 2) (old := tb) (x2 := nI N) (x3 := nI j) (x5 := nI k) (c30 := fun σ x2 x3 o4 x5 => L_X1_countWays_30 fuel σ x2 x3 o4 x5) hg (by omega) (l 0 1) sw_fuel 0 σ1 h1.1 h1.2.2.2.1.2.2.1 (hp.mv p3 h54) (fun i hi => by rw [p3.rL hne]; exact ht i hi) (fun i hi => p2 i hi) (by omega) (by have := sw_fuel_ge; omega)
    have h2 := h1.mv (q2.mono hsc) (by rw [q2.r h34]; exact h1.2.2.2.2.2.2.2.2.2.2.2.1)
    obtain ⟨σ3, r1, r2⟩ := px_c30 hg hd hj hN n fuel (k + 1) (g_wn l (D.1 2) tb) q p _ (h2.sw hp.2.2) ((hp.mv p3 h54).mv q2 h54).sw q3 (by omega) (by omega)
    refine ⟨σ3, ?_, r2⟩
    show S_X1_countWays_30 _ σ (nI N) (nI j) w (nI k) = _
    unfold S_X1_countWays_30
    rw [if_neg (nI_ge (by omega) (by omega)), hp.2.1]
    dsimp only [Option.bind]
    rw [p1]
    dsimp only
    rw [show (0 : Int32) = nI 0 from rfl, q1, nI_1]
    exact r1
theorem px_countWays {σ : sw_St} {w : Nat} {l : Nat → Nat → Nat} {P : Nat → List Nat} {nm : g_N} {D : g_D} {U : List g_D} {F : List (Nat × Nat × Nat)} {T : List Nat} {sd : Nat} {rf : Nat → Int32} {ft : Int32 × Int32} {im : List Nat} {a N j : Nat} (hg : g_ld l P) (hd : g_dk l D) (h : RX σ w l P nm D U F T sd rf ft im) (ha : a < 8) (hj : j < 64) (hN : N ≤ 12) : ∃ σ', F_X1_countWays σ (nI a) (nI N) (nI j) = some (g_sL (fun f => g_wk l (D.1 2) N (fun i => if i = 64 * a then 1 else 0) (64 * f + j)) (l 0 0), σ') ∧ RX σ' w l P nm D U F T sd rf ft im := by
  have hXP := h.2.2.2.2.2.2.2.2.2.2.2.2
  have : ∃ p q, px_pq σ p q := by
    rcases hXP with ⟨e1, e2⟩ | ⟨e1, e2⟩
    · exact ⟨60, 61, e1, e2, Or.inl ⟨rfl, rfl⟩⟩
    · exact ⟨61, 60, e1, e2, Or.inr ⟨rfl, rfl⟩⟩
  obtain ⟨p, q, hp⟩ := this
  have hA := px_pqA hp.2.2
  have h54 : 54 ∉ [p] := by have := hp.2.2; simp; omega
  have h34 : 34 ∉ [p] := by have := hp.2.2; simp; omega
  have hsc : ∀ o ∈ [p], o ∈ px_scr := fun o ho => by
    simp at ho
    rcases hp.2.2 with ⟨e, _⟩ | ⟨e, _⟩
    · rw [ho, e]
      decide
    · rw [ho, e]
      decide
  obtain ⟨σ1, p1, p2, p3⟩ := px_fill (σ := σ) hA.1.1 hA.1.2
  have m2 : pz_sm [p] σ (sw_uL σ1 p (64 * a) 1) := p3.L (by simp) _ _
  have hp1 := hp.mv p3 h54
  have h1 := h.mv (m2.mono hsc) (by rw [m2.r h34]; exact h.2.2.2.2.2.2.2.2.2.2.2.1)
  obtain ⟨σ2, q1, q2⟩ := px_c30 hg hd hj hN N sw_fuel 0 (fun i => if i = 64 * a then 1 else 0) p q _ h1 (hp.mv m2 h54) (fun i hi => by
    (try dsimp only)
    by_cases e : i = 64 * a
    · rw [pz_Le rfl e, if_pos e]
    · rw [pz_Lk e, if_neg e]
      exact p2 i hi) (by omega) (by have := sw_fuel_ge; omega)
  refine ⟨σ2, ?_, q2⟩
  unfold F_X1_countWays
  rw [h.1.2.1, hp.1]
  dsimp only [Option.bind]
  rw [p1]
  dsimp only
  rw [hp1.1]
  dsimp only
  rw [if_pos hA.1.1, hA.1.2, show nI a * 64 = nI (64 * a) from by rw [show (64 : Int32) = nI 64 from rfl, pk_mul, Nat.mul_comm a 64], if_pos (pz_inb (show 64 * a < 512 by omega) (by omega)), nI_clamp (show 64 * a < 2 ^ 31 by omega)]
  exact q1

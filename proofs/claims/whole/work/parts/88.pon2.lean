/-! An image comes in: the class. -/
def g_gok (t : Nat → Nat) (n k : Nat) : Bool := g_all (fun i => decide (t (5 + i) ≤ 1)) n k
def g_gb (t : Nat → Nat) (k : Nat) : Bool := decide (g_c (t (5 + k)) 1 = 1)
theorem px_r94 {t : Nat → Nat} {Ln w : Nat} {l : Nat → Nat → Nat} {P : Nat → List Nat} (ht : ∀ i, t i < 256) (hL : Ln ≤ 1600) (hg : g_ld l P) (hpL : 5 + l 0 1 ≤ Ln) : ∀ (n fuel k : Nat) (ok : Bool) (σ : sw_St), px_ld σ w l P → px_rd σ t Ln (5 + k) ok → σ.1 46 2 = nI (g_bits (g_gb t) k) → k + n = l 0 1 → n < fuel →
    ∃ σ', L_X5_read_94 fuel σ 1 w 46 (nI k) = L_X5_read_132 sw_fuel σ' 1 w 46 (nI 0) ∧ pz_sm [46, 224] σ σ' ∧ σ'.1 224 1 = σ.1 224 1 ∧ px_rd σ' t Ln (5 + l 0 1) (ok && g_gok t n k) ∧ σ'.1 46 2 = nI (g_bits (g_gb t) (l 0 1)) ∧ ∀ j, j ≠ 2 → σ'.1 46 j = σ.1 46 j
  | 0, fuel + 1, k, ok, σ, hl, h, hb, hk, hf => by
    have h10 := hg.2.1
    refine ⟨σ, ?_, pz_sm.refl _ _, rfl, ?_, by rw [show l 0 1 = k by omega]; exact hb, fun _ _ => rfl⟩
    · show S_X5_read_94 _ σ 1 w 46 (nI k) = _
      unfold S_X5_read_94
      rw [if_pos (ld_O hl.1), hl.2.2.2.1, if_pos (nI_le (by omega) (by omega))]
      rfl
    · rw [show l 0 1 = k by omega]
      show px_rd σ t Ln (5 + k) (ok && true)
      rw [Bool.and_true]
      exact h
  | n + 1, fuel + 1, k, ok, σ, hl, h, hb, hk, hf => by
    have h10 := hg.2.1
    have hq : (46 : Nat) = 38 ∨ 46 = 46 := Or.inr rfl
    obtain ⟨σ1, p1, p2, p3, p4⟩ := px_take1 (mx := 1) ht hL h (by omega) (by omega)
    have hc : g_c (t (5 + k)) 1 = 0 ∨ g_c (t (5 + k)) 1 = 1 := by
      unfold g_c
      split <;> omega
    have eor : nI (g_bits (g_gb t) k) ||| (nI (g_c (t (5 + k)) 1) <<< (nI k &&& 31)) = nI (g_bits (g_gb t) (k + 1)) := by
      show _ = nI (if g_gb t k = true then 2 ^ k + g_bits (g_gb t) k else g_bits (g_gb t) k)
      rcases hc with e | e
      · rw [e, if_neg (by unfold g_gb; rw [e]; decide)]
        have z : ∀ k, k < 31 → nI 0 <<< (nI k &&& 31) = nI 0 := by decide
        rw [z k (by omega), fa_or, Nat.or_zero]
      · rw [e, if_pos (by unfold g_gb; rw [e]; decide), show nI 1 <<< (nI k &&& 31) = nI (2 ^ k) from pz_shl (by omega), px_or (by omega)]
    have m2 : pz_sm [46, 224] σ (sw_uI σ1 46 2 (nI (g_bits (g_gb t) (k + 1)))) := (p2.mono (by decide)).I (by decide) _ _
    have p3' : px_rd (sw_uI σ1 46 2 (nI (g_bits (g_gb t) (k + 1)))) t Ln (5 + (k + 1)) (ok && decide (t (5 + k) ≤ 1)) := p3.mv (S := [46]) ((pz_sm.refl _ _).I (by decide) _ _) (by decide) (by decide)
    obtain ⟨σ2, q1, q2, q3, q4, q5, q6⟩ := px_r94 ht hL hg hpL n fuel (k + 1) _ _ (hl.mv m2 (by decide)) p3' (pz_Ie rfl rfl) (by omega) (by omega)
    refine ⟨σ2, ?_, m2.trans q2, by rw [q3, pz_Io (by decide), p4], ?_, q5, fun j hj => by rw [q6 j hj, pz_Ik hj, p2.r (by decide)]⟩
    · show S_X5_read_94 _ σ 1 w 46 (nI k) = _
      unfold S_X5_read_94
      rw [if_pos (ld_O hl.1), hl.2.2.2.1, if_neg (nI_ge (by omega) (by omega)), if_pos (st_O hq), show F_X5_take σ 1 1 1 = _ from p1]
      dsimp only [Option.bind]
      rw [if_pos (st_O hq), hb, eor, nI_1]
      exact q1
    · unfold g_gok
      rw [g_all_s, ← Bool.and_assoc]
      exact q4
/-- the state begins anew -/
theorem px_fillIL {q N : Nat} (hA : sw_isA sw_gX q 0 = true) (hn : sw_ln sw_gX q = N) (hN : N < 2 ^ 30) : ∀ (n fuel k : Nat) (σ : sw_St), (∀ i, i < k → σ.1 q i = 0) → k + n = N → n < fuel → ∃ σ', L_J7_fill_53178_5 fuel σ q 0 (nI k) (nI N) = some ((), σ') ∧ (∀ i, i < N → σ'.1 q i = 0) ∧ pz_sm [q] σ σ'
  | 0, fuel + 1, k, σ, h, hk, hf => by
    refine ⟨σ, ?_, fun i hi => h i (by omega), pz_sm.refl _ _⟩
    show S_J7_fill_53178_5 _ σ q 0 (nI k) (nI N) = _
    unfold S_J7_fill_53178_5
    rw [if_pos (nI_le (by omega) (by omega))]
  | n + 1, fuel + 1, k, σ, h, hk, hf => by
    have m1 : pz_sm [q] σ (sw_uI σ q k 0) := (pz_sm.refl _ σ).I (by simp) _ _
    obtain ⟨σ', p1, p2, p3⟩ := px_fillIL hA hn hN n fuel (k + 1) (sw_uI σ q k 0) (fun i hi => by
      by_cases e : i = k
      · rw [pz_Ie rfl e]
      · rw [pz_Ik e]
        exact h i (by omega)) (by omega) (by omega)
    refine ⟨σ', ?_, p2, m1.trans p3⟩
    show S_J7_fill_53178_5 _ σ q 0 (nI k) (nI N) = _
    unfold S_J7_fill_53178_5
    rw [if_neg (nI_ge (by omega) (by omega)), if_pos hA, hn, if_pos (pz_inb (by omega) (by omega)), nI_clamp (by omega), nI_1]
    exact p1
theorem px_bgloop {w : Nat} {l : Nat → Nat → Nat} {P : Nat → List Nat} (hg : g_ld l P) : ∀ (n fuel s : Nat) (σ : sw_St), px_ld σ w l P → (∀ u, u < s → σ.1 51 u = nI (l 3 (2 * u + 1))) → (∀ u j, l 0 0 ≤ j → j < 8 → u < 6 → σ.1 52 (8 * u + j) = 0) → s + n = l 0 2 → n < fuel →
    ∃ σ', L_X8_begin_38 fuel σ 46 w (nI s) = some ((), σ') ∧ pz_sm [47, 48, 49, 50, 51, 52] σ σ' ∧ (∀ u, u < l 0 2 → σ'.1 51 u = nI (l 3 (2 * u + 1))) ∧ ∀ u j, l 0 0 ≤ j → j < 8 → u < 6 → σ'.1 52 (8 * u + j) = 0
  | 0, fuel + 1, s, σ, hl, h1, h2, hs, hf => by
    have h6 := hg.2.2.1
    refine ⟨σ, ?_, pz_sm.refl _ _, fun u hu => h1 u (by omega), h2⟩
    show S_X8_begin_38 _ σ 46 w (nI s) = _
    unfold S_X8_begin_38
    rw [if_pos (ld_O hl.1), hl.2.2.2.2.1, if_pos (nI_le (by omega) (by omega))]
  | n + 1, fuel + 1, s, σ, hl, h1, h2, hs, hf => by
    have h6 := hg.2.2.1
    have h8 := hg.1
    have hw := hl.1
    have hq : (46 : Nat) = 38 ∨ 46 = 46 := Or.inr rfl
    have hs2 : s < l 0 2 := by omega
    obtain ⟨b1, b2⟩ := hg.2.2.2.2.2.2.1 s hs2
    obtain ⟨c1, c2⟩ := hl.2.2.2.2.2.2.2.2.1 s hs2
    have mm : pz_sm [47, 48, 49, 50, 51, 52] σ (sw_uI (sw_uI (sw_uI (sw_uI (sw_uI (sw_uI σ (46 + 1) s (nI (l 3 (2 * s)))) (46 + 2) s 0) (46 + 3) s 0) (46 + 4) s 0) (46 + 5) s (nI (l 3 (2 * s + 1)))) (46 + 6) (8 * s + l 3 (2 * s)) 1) := ((((((pz_sm.refl _ σ).I (by decide) _ _).I (by decide) _ _).I (by decide) _ _).I (by decide) _ _).I (by decide) _ _).I (by decide) _ _
    obtain ⟨σ', p1, p2, p3, p4⟩ := px_bgloop hg n fuel (s + 1) _ (hl.mv mm (by decide)) (fun u hu => by
      rw [pz_Io (by decide)]
      by_cases e : u = s
      · rw [e, pz_Ie rfl rfl]
      · rw [pz_Ik e, pz_Io (by decide), pz_Io (by decide), pz_Io (by decide), pz_Io (by decide)]
        exact h1 u (by omega)) (fun u j y1 y2 y3 => by
      rw [pz_Ik (by omega), pz_Io (by decide), pz_Io (by decide), pz_Io (by decide), pz_Io (by decide), pz_Io (by decide)]
      exact h2 u j y1 y2 y3) (by omega) (by omega)
    refine ⟨σ', ?_, mm.trans p2, p3, p4⟩
    have hi : sw_inb (nI s) 6 = true := pz_inb (by omega) (by omega)
    have nw : ∀ i j, i ≤ 12 → w + i ≠ 46 + j := fun i j hi => by omega
    show S_X8_begin_38 _ σ 46 w (nI s) = _
    unfold S_X8_begin_38
    rw [if_pos (ld_O hw), hl.2.2.2.2.1, if_neg (nI_ge hs2 (by omega))]
    simp only [ld_O hw, st_O hq, ld_A7 hw, ld_n7 hw, ld_A8 hw, ld_n8 hw, st_A1 hq, st_A2 hq, st_A3 hq, st_A4 hq, st_A5 hq, st_A6 hq, st_n1 hq, st_n2 hq, st_n3 hq, st_n4 hq, st_n5 hq, st_n6 hq, hi, if_true, nI_clamp (show s < 2 ^ 31 by omega), c1, pz_Io (nw 8 4 (by omega)), pz_Io (nw 8 3 (by omega)), pz_Io (nw 8 2 (by omega)), pz_Io (nw 8 1 (by omega)), c2]
    rw [pz_Io (show (46 + 1 : Nat) ≠ 46 + 5 by decide), pz_Io (show (46 + 1 : Nat) ≠ 46 + 4 by decide), pz_Io (show (46 + 1 : Nat) ≠ 46 + 3 by decide), pz_Io (show (46 + 1 : Nat) ≠ 46 + 2 by decide), pz_Ie rfl rfl, px_ix8, if_pos (pz_inb (show 8 * s + l 3 (2 * s) < 48 by omega) (by omega)), nI_clamp (show 8 * s + l 3 (2 * s) < 2 ^ 31 by omega), nI_1]
    exact p1
theorem px_begin {σ : sw_St} {w : Nat} {l : Nat → Nat → Nat} {P : Nat → List Nat} (hg : g_ld l P) (hl : px_ld σ w l P) : ∃ σ', F_X8_begin σ 46 w = some ((), σ') ∧ pz_sm [46, 47, 48, 49, 50, 51, 52] σ σ' ∧ σ'.1 46 10 = 0 ∧ σ'.1 46 11 = 0 ∧ (∀ u, u < l 0 2 → σ'.1 51 u = nI (l 3 (2 * u + 1))) ∧ ∀ u j, l 0 0 ≤ j → j < 8 → u < 6 → σ'.1 52 (8 * u + j) = 0 := by
  have hq : (46 : Nat) = 38 ∨ 46 = 46 := Or.inr rfl
  have hfu := sw_fuel_ge
  have h6 := hg.2.2.1
  have m0 : pz_sm [46, 47, 48, 49, 50, 51, 52] σ (sw_uI (sw_uI (sw_uI (sw_uI (sw_uI σ 46 0 0) 46 1 0) 46 2 ((sw_uI (sw_uI σ 46 0 0) 46 1 0).1 w 5)) 46 10 0) 46 11 0) := (((((pz_sm.refl _ σ).I (by decide) _ _).I (by decide) _ _).I (by decide) _ _).I (by decide) _ _).I (by decide) _ _
  obtain ⟨σ1, p1, p2, p3⟩ := px_fillIL (q := 46 + 6) (st_A6 hq) (st_n6 hq) (by omega) 48 sw_fuel 0 (sw_uI (sw_uI (sw_uI (sw_uI (sw_uI σ 46 0 0) 46 1 0) 46 2 ((sw_uI (sw_uI σ 46 0 0) 46 1 0).1 w 5)) 46 10 0) 46 11 0) (fun i hi => by omega) (by omega) (by omega)
  obtain ⟨σ2, q1, q2, q3, q4⟩ := px_bgloop hg (l 0 2) sw_fuel 0 σ1 (hl.mv (m0.trans (p3.mono (by decide))) (by decide)) (fun u hu => by omega) (fun u j _ h2 h3 => p2 _ (by omega)) (by omega) (by omega)
  refine ⟨σ2, ?_, (m0.trans (p3.mono (by decide))).trans (q2.mono (by decide)), ?_, ?_, q3, q4⟩
  · have eF : F_J7_fill_53178 (sw_uI (sw_uI (sw_uI (sw_uI (sw_uI σ 46 0 0) 46 1 0) 46 2 ((sw_uI (sw_uI σ 46 0 0) 46 1 0).1 w 5)) 46 10 0) 46 11 0) (46 + 6) 0 = some ((), σ1) := by
      unfold F_J7_fill_53178
      rw [st_A6 hq, Bool.true_or, Bool.true_or, Bool.true_or, if_pos rfl, st_n6 hq]
      exact p1
    unfold F_X8_begin
    rw [if_pos (st_O hq), if_pos (st_O hq), if_pos (ld_O hl.1), if_pos (st_O hq), if_pos (st_O hq), if_pos (st_O hq), if_pos (st_O hq), eF]
    exact q1
  · rw [q2.r (by decide), p3.r (by decide), pz_Ik (by decide), pz_Ie rfl rfl]
  · rw [q2.r (by decide), p3.r (by decide), pz_Ie rfl rfl]
def g_LEN (l : Nat → Nat → Nat) : Nat := 6 + l 0 1 + l 0 2 * (5 + l 0 0)
def g_t (T : List Nat) (i : Nat) : Nat := T.getD i 0
/-- the tape is an image -/
def g_isI (l : Nat → Nat → Nat) (T : List Nat) : Bool := decide (T.length = g_LEN l) && (decide (g_t T (T.length - 1) = g_ck 227 (T.take (T.length - 1))) && (decide (256 * g_t T 0 + g_t T 1 ≤ 999) && (decide (65536 * g_t T 2 + 256 * g_t T 3 + g_t T 4 ≤ 99999) && (g_gok (g_t T) (l 0 1) 0 && g_all (fun u => g_sok l (g_t T) (g_bs l u)) (l 0 2) 0))))
/-- what it tells -/
def g_iD (l : Nat → Nat → Nat) (T : List Nat) : g_D := (fun j => if j = 0 then g_c (256 * g_t T 0 + g_t T 1) 999 else if j = 1 then g_c (65536 * g_t T 2 + 256 * g_t T 3 + g_t T 4) 99999 else g_bits (g_gb (g_t T)) (l 0 1), fun s => g_srow l (g_t T) (g_bs l s), [])
theorem g_c_le (v mx : Nat) : g_c v mx ≤ mx := by
  unfold g_c
  split <;> omega
theorem g_iD_dk {l : Nat → Nat → Nat} {P : Nat → List Nat} {T : List Nat} (hg : g_ld l P) : g_dk l (g_iD l T) := by
  refine ⟨g_c_le _ _, g_c_le _ _, g_bits_lt _ _, fun s hs => ?_, Nat.zero_le _, fun x hx => (by cases hx), fun s j hs h1 h2 => ?_⟩
  · have h8 := hg.1
    have hf0 : 0 < l 0 0 := by have := (hg.2.2.2.2.2.2.1 s hs).1; omega
    have c0 : (g_iD l T).2.1 s 0 ≤ l 0 0 - 1 := g_c_le _ _
    refine ⟨⟨(hg.2.2.2.2.2.2.1 s hs).2, by omega, g_c_le _ _, ?_, g_c_le _ _, fun f hf => ?_⟩, by omega⟩
    · have : (g_iD l T).2.1 s 2 ≤ 63 := g_c_le _ _
      omega
    · show g_srow l (g_t T) (g_bs l s) (4 + f) ≤ 99
      unfold g_srow
      rw [if_neg (by omega), if_neg (by omega), if_neg (by omega), if_neg (by omega)]
      by_cases e : 4 + f < 4 + l 0 0
      · rw [if_pos e]
        exact g_c_le _ _
      · rw [if_neg e]
        omega
  · show g_srow l (g_t T) (g_bs l s) (4 + j) = 0
    unfold g_srow
    rw [if_neg (by omega), if_neg (by omega), if_neg (by omega), if_neg (by omega), if_neg (by omega)]
theorem px_read {σ : sw_St} {w : Nat} {l : Nat → Nat → Nat} {P : Nat → List Nat} {T : List Nat} (hg : g_ld l P) (hl : px_ld σ w l P) (hT : T.length ≤ 1600) (h256 : ∀ b ∈ T, b < 256) (hb : ∀ i, i < T.length → σ.1 1 i = sB (g_t T i)) (h10 : σ.1 46 10 = 0) (h11 : σ.1 46 11 = 0) (h51 : ∀ u, u < l 0 2 → σ.1 51 u = nI (l 3 (2 * u + 1))) (h52 : ∀ u j, l 0 0 ≤ j → j < 8 → u < 6 → σ.1 52 (8 * u + j) = 0) :
    ∃ σ', F_X5_read σ 1 (nI T.length) w 46 = some (g_ok1 (g_isI l T), σ') ∧ pz_sm [46, 47, 48, 49, 50, 52, 224] σ σ' ∧ σ'.1 224 1 = σ.1 224 1 ∧ (g_isI l T = true → px_st σ' 46 l (g_iD l T)) := by
  have hfu := sw_fuel_ge
  have g8 := hg.1
  have g1 := hg.2.1
  have g6 := hg.2.2.1
  have hq : (46 : Nat) = 38 ∨ 46 = 46 := Or.inr rfl
  have hmul : l 0 2 * (5 + l 0 0) ≤ 6 * 13 := Nat.mul_le_mul (by omega) (by omega)
  have ht : ∀ i, g_t T i < 256 := fun i => by
    unfold g_t
    by_cases hi : i < T.length
    · rw [List.getD_eq_getElem?_getD, List.getElem?_eq_getElem hi]
      exact h256 _ (List.getElem_mem hi)
    · rw [List.getD_eq_getElem?_getD, List.getElem?_eq_none (by omega)]
      decide
  have eLn : (6 : Int32) + nI (l 0 1) + nI (l 0 2) * (5 + nI (l 0 0)) = nI (g_LEN l) := by
    rw [show (6 : Int32) = nI 6 from rfl, show (5 : Int32) = nI 5 from rfl, nI_add, nI_add, pk_mul, nI_add]
    rfl
  have hLl : g_LEN l ≤ 94 := by unfold g_LEN; omega
  unfold F_X5_read S_X5_read_46
  rw [if_pos (ld_O hl.1), if_pos (ld_O hl.1), if_pos (ld_O hl.1), hl.2.2.2.1, hl.2.2.2.2.1, hl.2.2.1, eLn]
  by_cases c1 : T.length = g_LEN l
  · have hlen6 : 6 ≤ T.length := by rw [c1]; unfold g_LEN; omega
    have ek : F_X5_checkOf σ 1 (nI (T.length - 1)) = some (nI (g_ck 227 (T.take (T.length - 1))), σ) := by
      have hl1 : (T.take (T.length - 1)).length = T.length - 1 := by rw [List.length_take]; omega
      have := px_ckl (σ := σ) (o := 1) (N := 1600) (L := T.take (T.length - 1)) ⟨sw_c1.1, sw_c1.2.1⟩ (by omega) sw_c1.2.2 (by omega) (fun i hi => by
        rw [hb i (by omega)]
        unfold g_t
        rw [List.getD_eq_getElem?_getD, List.getD_eq_getElem?_getD, List.getElem?_take, if_pos (by omega)]) (fun b hb => h256 b (List.mem_of_mem_take hb)) (T.length - 1) sw_fuel 0 227 (by omega) (by omega) (by omega)
      rw [hl1] at this
      exact this
    have hck : g_ck 227 (T.take (T.length - 1)) < 251 := g_ck_lt _ _ (by omega)
    rw [if_pos (show nI T.length = nI (g_LEN l) from by rw [c1]), show nI T.length - 1 = nI (T.length - 1) from pk_sub (b := 1) (by omega), ek]
    dsimp only [Option.bind]
    rw [if_pos sw_c1.1, sw_c1.2.2, if_pos (pz_inb (by omega) (by omega)), nI_clamp (by omega), hb _ (by omega), sB_255 (ht _)]
    by_cases c2 : g_t T (T.length - 1) = g_ck 227 (T.take (T.length - 1))
    · rw [if_pos (show nI (g_ck 227 (T.take (T.length - 1))) = nI (g_t T (T.length - 1)) from by rw [c2])]
      have hLB : g_bs l (l 0 2) + 1 = T.length := by rw [c1]; unfold g_bs g_LEN; omega
      have h0 : px_rd (sw_uI (sw_uI σ 224 2 0) 224 3 1) (g_t T) T.length 0 true := ⟨fun i hi => by rw [pz_Io (by decide), pz_Io (by decide)]; exact hb i hi, by rw [pz_Ik (by decide), pz_Ie rfl rfl]; rfl, by rw [pz_Ie rfl rfl]; rfl⟩
      have m0 : pz_sm [46, 47, 48, 49, 50, 52, 224] σ (sw_uI (sw_uI σ 224 2 0) 224 3 1) := ((pz_sm.refl _ σ).I (by decide) _ _).I (by decide) _ _
      obtain ⟨σ1, a1, a2, a3, a4⟩ := px_take2 (mx := 999) ht hT h0 (by omega) (by omega)
      have b3 : px_rd (sw_uI σ1 46 0 (nI (g_c (256 * g_t T 0 + g_t T 1) 999))) (g_t T) T.length (0 + 2) _ := a3.mv (S := [46]) ((pz_sm.refl _ _).I (by decide) _ _) (by decide) (by decide)
      obtain ⟨σ2, d1, d2, d3, d4⟩ := px_take3 (mx := 99999) ht hT b3 (by omega) (by omega)
      have e3 : px_rd (sw_uI (sw_uI σ2 46 1 (nI (g_c (65536 * g_t T 2 + 256 * g_t T 3 + g_t T 4) 99999))) 46 2 0) (g_t T) T.length (5 + 0) _ := d3.mv (S := [46]) (((pz_sm.refl _ _).I (by decide) _ _).I (by decide) _ _) (by decide) (by decide)
      have m2 : pz_sm [46, 47, 48, 49, 50, 52, 224] σ (sw_uI (sw_uI σ2 46 1 (nI (g_c (65536 * g_t T 2 + 256 * g_t T 3 + g_t T 4) 99999))) 46 2 0) := ((((m0.trans (a2.mono (by decide))).I (by decide) _ _).trans (d2.mono (by decide))).I (by decide) _ _).I (by decide) _ _
      obtain ⟨σ3, f1, f2, f3, f4, f5, f6⟩ := px_r94 ht hT hg (by unfold g_bs at hLB; omega) (l 0 1) sw_fuel 0 _ _ (hl.mv m2 (by decide)) e3 (pz_Ie rfl rfl) (by omega) (by omega)
      have m3 := m2.trans (f2.mono (by decide))
      have f4' := f4
      rw [show 5 + l 0 1 = g_bs l 0 from by unfold g_bs; omega] at f4'
      obtain ⟨σ4, k1, k2, k3, k4, k5⟩ := px_r132 ht hT hg (by omega) (l 0 2) sw_fuel 0 _ σ3 (hl.mv m3 (by decide)) f4' (fun u hu => by omega) (by omega) (by omega)
      have hok : ((((true && decide (256 * g_t T 0 + g_t T (0 + 1) ≤ 999)) && decide (65536 * g_t T (0 + 2) + 256 * g_t T (0 + 2 + 1) + g_t T (0 + 2 + 2) ≤ 99999)) && g_gok (g_t T) (l 0 1) 0) && g_all (fun u => g_sok l (g_t T) (g_bs l u)) (l 0 2) 0) = g_isI l T := by
        unfold g_isI
        rw [decide_eq_true c1, decide_eq_true c2]
        simp only [Bool.and_assoc, Bool.true_and]
      rw [hok] at k1
      refine ⟨σ4, ?_, m3.trans (k2.mono (by decide)), ?_, fun _ => ?_⟩
      · rw [show (999 : Int32) = nI 999 from rfl, a1]
        dsimp only
        rw [if_pos (st_O hq), show (99999 : Int32) = nI 99999 from rfl, d1]
        dsimp only
        rw [if_pos (st_O hq), if_pos (st_O hq), show L_X5_read_94 sw_fuel (sw_uI (sw_uI σ2 46 1 (nI (g_c (65536 * g_t T (0 + 2) + 256 * g_t T (0 + 2 + 1) + g_t T (0 + 2 + 2)) 99999))) 46 2 0) 1 w 46 0 = _ from f1, k1]
      · rw [k3, f3, pz_Io (by decide), pz_Io (by decide), d4, pz_Io (by decide), a4, pz_Ik (by decide), pz_Ik (by decide)]
      · have r46 : ∀ j, j ≠ 2 → σ4.1 46 j = (sw_uI (sw_uI σ2 46 1 (nI (g_c (65536 * g_t T 2 + 256 * g_t T 3 + g_t T 4) 99999))) 46 2 0).1 46 j := fun j hj => by rw [k2.r (by decide), f6 j hj]
        refine ⟨?_, ?_, ?_, fun s hs => ?_, 0, by omega, ?_, ?_, fun i hi => by cases hi⟩
        · rw [r46 0 (by decide), pz_Ik (by decide), pz_Ik (by decide), d2.r (by decide), pz_Ie rfl rfl]
          rfl
        · rw [r46 1 (by decide), pz_Ik (by decide), pz_Ie rfl rfl]
          rfl
        · rw [k2.r (by decide), f5]
          rfl
        · obtain ⟨y1, y2, y3, y4, y5⟩ := k4 s hs
          refine ⟨y1, y2, y3, y4, ?_, fun j hj => ?_⟩
          · show σ4.1 51 s = _
            rw [(m3.trans (k2.mono (by decide))).r (by decide)]
            exact h51 s hs
          · by_cases e : j < l 0 0
            · exact y5 j e
            · show σ4.1 52 (8 * s + j) = nI (g_srow l (g_t T) (g_bs l s) (4 + j))
              rw [k5 s j (by omega) hj, f2.r (by decide), pz_Io (by decide), pz_Io (by decide), d2.r (by decide), pz_Io (by decide), a2.r (by decide), pz_Io (by decide), pz_Io (by decide), h52 s j (by omega) hj (by omega)]
              unfold g_srow
              rw [if_neg (by omega), if_neg (by omega), if_neg (by omega), if_neg (by omega), if_neg (by omega)]
              rfl
        · rw [r46 10 (by decide), pz_Ik (by decide), pz_Ik (by decide), d2.r (by decide), pz_Ik (by decide), a2.r (by decide), pz_Io (by decide), pz_Io (by decide), h10]
          rfl
        · rw [r46 11 (by decide), pz_Ik (by decide), pz_Ik (by decide), d2.r (by decide), pz_Ik (by decide), a2.r (by decide), pz_Io (by decide), pz_Io (by decide), h11]
          rfl
    · have e : g_isI l T = false := by
        unfold g_isI
        rw [decide_eq_false c2, Bool.false_and, Bool.and_false]
      rw [if_neg (show ¬ nI (g_ck 227 (T.take (T.length - 1))) = nI (g_t T (T.length - 1)) from fun z => c2 (by have := ht (T.length - 1); rw [nI_eq (by omega) (by omega)] at z; exact z.symm)), e]
      exact ⟨σ, rfl, pz_sm.refl _ _, rfl, fun z => by cases z⟩
  · have e : g_isI l T = false := by
      unfold g_isI
      rw [decide_eq_false c1, Bool.false_and]
    rw [if_neg (show ¬ nI T.length = nI (g_LEN l) from fun z => c1 (by rw [nI_eq (by omega) (by omega)] at z; exact z)), e]
    exact ⟨σ, rfl, pz_sm.refl _ _, rfl, fun z => by cases z⟩
theorem RX.clr {σ : sw_St} {w : Nat} {l : Nat → Nat → Nat} {P : Nat → List Nat} {nm : g_N} {D : g_D} {U : List g_D} {F : List (Nat × Nat × Nat)} {T : List Nat} {sd : Nat} {rf : Nat → Int32} {ft : Int32 × Int32} {im : List Nat} (h : RX σ w l P nm D U F T sd rf ft im) : RX (sw_uI σ 62 2 0) w l P nm D [] F T sd rf ft im := by
  have m : pz_sm [62] σ (sw_uI σ 62 2 0) := (pz_sm.refl _ σ).I (by decide) _ _
  refine h.gen m (by decide) (m.rR (by decide) 4) (h.2.2.2.1.mv (fun i hi => (m _ (by simp; omega)).1)) ?_ (h.2.2.2.2.2.1.mv (m.r (by decide) 4) (m 55 (by decide)).1) (h.2.2.2.2.2.2.1.mv (m.r (by decide) 1) (m 1 (by decide)).1) (by rw [m.r (by decide)]; exact h.2.2.2.2.2.2.2.1) (fun j hj => by rw [m.r (by decide)]; exact h.2.2.2.2.2.2.2.2.1 j hj) (by rw [m.r (by decide), m.r (by decide)]; exact h.2.2.2.2.2.2.2.2.2.1) (h.2.2.2.2.2.2.2.2.2.2.1.mv (m.r (by decide) 1) (m 225 (by decide)).1) (by rw [m.r (by decide)]; exact h.2.2.2.2.2.2.2.2.2.2.2.1) (h.2.2.2.2.2.2.2.2.2.2.2.2.mv (m 54 (by decide)).2.2)
  obtain ⟨nx, b1, b2, b3, b4, b5⟩ := h.2.2.2.2.1
  exact ⟨nx, b1, by rw [pz_Ik (by decide)]; exact b2, by rw [pz_Ie rfl rfl]; rfl, b4, fun i E hi => by simp at hi⟩
theorem RX.img2 {σ σ' : sw_St} {w : Nat} {l : Nat → Nat → Nat} {P : Nat → List Nat} {nm : g_N} {D : g_D} {U : List g_D} {F : List (Nat × Nat × Nat)} {T : List Nat} {sd : Nat} {rf : Nat → Int32} {ft : Int32 × Int32} {im : List Nat} (h : RX σ w l P nm D U F T sd rf ft im) (m : pz_sm [46, 47, 48, 49, 50, 51, 52, 224] σ σ') (h1 : σ'.1 224 1 = σ.1 224 1) : RX σ' w l P nm D U F T sd rf ft im := by
  refine h.gen m (by decide) (m.rR (by decide) 4) (h.2.2.2.1.mv (fun i hi => (m _ (by simp; omega)).1)) (h.2.2.2.2.1.mv m (by decide)) (h.2.2.2.2.2.1.mv (m.r (by decide) 4) (m 55 (by decide)).1) (h.2.2.2.2.2.2.1.mv (m.r (by decide) 1) (m 1 (by decide)).1) (by rw [m.r (by decide)]; exact h.2.2.2.2.2.2.2.1) (fun j hj => by rw [m.r (by decide)]; exact h.2.2.2.2.2.2.2.2.1 j hj) (by rw [m.r (by decide), m.r (by decide)]; exact h.2.2.2.2.2.2.2.2.2.1) (h.2.2.2.2.2.2.2.2.2.2.1.mv h1 (m 225 (by decide)).1) (by rw [m.r (by decide)]; exact h.2.2.2.2.2.2.2.2.2.2.2.1) (h.2.2.2.2.2.2.2.2.2.2.2.2.mv (m 54 (by decide)).2.2)
theorem px_on {σ : sw_St} {w : Nat} {l : Nat → Nat → Nat} {P : Nat → List Nat} {nm : g_N} {D : g_D} {U : List g_D} {F : List (Nat × Nat × Nat)} {T : List Nat} {sd : Nat} {rf : Nat → Int32} {ft : Int32 × Int32} {im : List Nat} (hG : RG l P nm D U F T sd im) (h : RX σ w l P nm D U F T sd rf ft im) : ∃ σ', F_X10_on σ = some (g_ok1 (g_isI l T), σ') ∧ (if g_isI l T = true then RX σ' w l P nm (g_iD l T) [] F [] sd rf ft im else RX σ' w l P nm D U F [] sd (g_rf rf 5) ft im) := by
  have hX0 := h.tape0
  obtain ⟨σ1, p1, p2, p3, p4, p5, p6⟩ := px_begin hG.1 hX0.1
  have hl1 := hX0.1.mv p2 (by decide)
  have hT := hG.2.2.2.2.2.1
  obtain ⟨σ2, q1, q2, q3, q4⟩ := px_read (T := T) hG.1 hl1 hT.1 hT.2 (fun i hi => by rw [p2.r (by decide), pz_Io (by decide)]; exact h.2.2.2.2.2.2.1.2 i hi) p3 p4 p5 p6
  have hX2 := hX0.img2 ((p2.mono (by decide)).trans (q2.mono (by decide))) (by rw [q3, p2.r (by decide)])
  unfold F_X10_on F_X10_takeTape
  dsimp only [Option.bind]
  rw [h.2.2.2.2.2.2.1.1, hX0.1.2.1]
  dsimp only
  rw [p1]
  dsimp only
  rw [hl1.2.1]
  dsimp only
  rw [q1]
  dsimp only
  by_cases e : g_isI l T = true
  · rw [e, show g_ok1 true = 1 from rfl, if_neg pz_10]
    obtain ⟨σ3, r1, r2, r3⟩ := px_copyFrom (σ := σ2) (q0 := 38) (q1 := 46) (Or.inl rfl) (Or.inr (Or.inl rfl)) (fun i j hi hj => by omega)
    rw [r1]
    dsimp only
    unfold F_X4_clear
    refine ⟨_, rfl, by rw [if_pos rfl]; exact RX.clr (hX2.setD r2 (by decide) (r3 l _ hG.1.2.2.1 (q4 e)) (by rw [r2.r (by decide)]; exact hX2.2.2.2.2.2.2.2.2.2.2.2.1))⟩
  · rw [show g_isI l T = false from by simpa using e, show g_ok1 false = 0 from rfl, if_pos rfl, show (5 : Int32) = nI 5 from rfl, px_refuse (by omega)]
    exact ⟨_, rfl, by rw [if_neg (by decide)]; exact hX2.ref (by omega)⟩

/-! An image comes in: what the tape tells. -/
def g_tv (t : Nat → Nat) : Nat → Nat → Nat → Nat
  | 0, _, a => a
  | n + 1, p, a => g_tv t n (p + 1) (256 * a + t p)
/-- a value, or 0 if it is too great -/
def g_c (v mx : Nat) : Nat := if v ≤ mx then v else 0
def g_ok1 (b : Bool) : Int32 := if b = true then 1 else 0
theorem sw_c1 : sw_isA sw_gX 1 1 = true ∧ (sw_isA sw_gX 1 0 || sw_isA sw_gX 1 1 || sw_isA sw_gX 1 2 || sw_isA sw_gX 1 3) = true ∧ sw_ln sw_gX 1 = 1600 := by
  refine ⟨?_, ?_, ?_⟩ <;> decide +kernel
/-- the bytes on the tape, the place, and whether all is well -/
def px_rd (σ : sw_St) (t : Nat → Nat) (Ln p : Nat) (ok : Bool) : Prop := (∀ i, i < Ln → σ.1 1 i = sB (t i)) ∧ σ.1 224 2 = nI p ∧ σ.1 224 3 = g_ok1 ok
theorem px_rd.mv {σ σ' : sw_St} {t : Nat → Nat} {Ln p : Nat} {ok : Bool} {S : List Nat} (h : px_rd σ t Ln p ok) (m : pz_sm S σ σ') (h1 : 1 ∉ S) (h2 : 224 ∉ S) : px_rd σ' t Ln p ok :=
  ⟨fun i hi => by rw [m.r h1]; exact h.1 i hi, by rw [m.r h2]; exact h.2.1, by rw [m.r h2]; exact h.2.2⟩
theorem px_tkloop {t : Nat → Nat} {x3 : Int32} {N Ln : Nat} (ht : ∀ i, t i < 256) (hL : Ln ≤ 1600) (hN : N ≤ 3) : ∀ (n fuel k a p : Nat) (ok : Bool) (σ : sw_St), px_rd σ t Ln p ok → k + n = N → p + n ≤ Ln → a < 256 ^ (3 - n) → n ≤ 3 → n < fuel →
    ∃ σ', L_X5_take_6 fuel σ 1 (nI N) x3 (nI a) (nI k) = S_X5_take_55 σ' x3 (nI (g_tv t n p a)) ∧ pz_sm [224] σ σ' ∧ px_rd σ' t Ln (p + n) ok ∧ σ'.1 224 1 = σ.1 224 1
  | 0, fuel + 1, k, a, p, ok, σ, h, hk, hp, ha, hn3, hf => by
    refine ⟨σ, ?_, pz_sm.refl _ _, h, rfl⟩
    show S_X5_take_6 _ σ 1 (nI N) x3 (nI a) (nI k) = _
    unfold S_X5_take_6
    rw [if_pos (nI_le (by omega) (by omega))]
    rfl
  | n + 1, fuel + 1, k, a, p, ok, σ, h, hk, hp, ha, hn3, hf => by
    have htp := ht p
    have hpw : 256 ^ (3 - n) = 256 ^ (3 - (n + 1)) * 256 := by
      rw [← Nat.pow_succ]
      congr 1
      omega
    have hp2 : 256 ^ (3 - (n + 1)) ≤ 256 ^ 2 := Nat.pow_le_pow_right (by omega) (by omega)
    have ha2 : a * 256 < 2 ^ 24 := by omega
    have m1 : pz_sm [224] σ (sw_uI σ 224 2 (nI (p + 1))) := (pz_sm.refl _ σ).I (by decide) _ _
    obtain ⟨σ', p1, p2, p3, p4⟩ := px_tkloop (x3 := x3) ht hL hN n fuel (k + 1) (256 * a + t p) (p + 1) ok (sw_uI σ 224 2 (nI (p + 1))) ⟨fun i hi => by rw [pz_Io (by decide)]; exact h.1 i hi, pz_Ie rfl rfl, by rw [pz_Ik (by decide)]; exact h.2.2⟩ (by omega) (by omega) (by rw [hpw]; omega) (by omega) (by omega)
    refine ⟨σ', ?_, m1.trans p2, by rw [show p + (n + 1) = p + 1 + n by omega]; exact p3, by rw [p4, pz_Ik (by decide)]⟩
    show S_X5_take_6 _ σ 1 (nI N) x3 (nI a) (nI k) = _
    unfold S_X5_take_6
    rw [if_neg (nI_ge (by omega) (by omega)), if_pos sw_c1.2.1, sw_c1.2.2, h.2.1, if_neg (nI_ge (by omega) (by omega)), if_pos sw_c1.1, if_pos (pz_inb (by omega) (by omega)), nI_clamp (by omega), h.1 p (by omega), sB_255 htp, pk_shlN (n := a) (8 &&& 31) 8 (by decide) (by omega), show a * 2 ^ 8 = 2 ^ 8 * a by omega, fa_or_sum a (show t p < 2 ^ 8 by omega), nI_1, nI_1]
    exact p1
theorem px_take {t : Nat → Nat} {N Ln p mx : Nat} {ok : Bool} {σ : sw_St} (ht : ∀ i, t i < 256) (hL : Ln ≤ 1600) (hN : N ≤ 3) (h : px_rd σ t Ln p ok) (hp : p + N ≤ Ln) (hv : g_tv t N p 0 < 2 ^ 24) (hm : mx < 2 ^ 30) :
    ∃ σ', F_X5_take σ 1 (nI N) (nI mx) = some (nI (g_c (g_tv t N p 0) mx), σ') ∧ pz_sm [224] σ σ' ∧ px_rd σ' t Ln (p + N) (ok && decide (g_tv t N p 0 ≤ mx)) ∧ σ'.1 224 1 = σ.1 224 1 := by
  obtain ⟨σ1, p1, p2, p3, p4⟩ := px_tkloop (x3 := nI mx) (N := N) ht hL hN N sw_fuel 0 0 p ok σ h (by omega) hp (Nat.pow_pos (by omega)) hN (by have := sw_fuel_ge; omega)
  have e : F_X5_take σ 1 (nI N) (nI mx) = S_X5_take_55 σ1 (nI mx) (nI (g_tv t N p 0)) := p1
  rw [e]
  unfold S_X5_take_55 g_c
  by_cases c : g_tv t N p 0 ≤ mx
  · rw [if_pos (nI_le c (by omega)), if_pos c, decide_eq_true c, Bool.and_true]
    exact ⟨σ1, rfl, p2, p3, p4⟩
  · rw [if_neg (nI_ge (by omega) (by omega)), if_neg c, decide_eq_false c, Bool.and_false]
    refine ⟨sw_uI σ1 224 3 0, rfl, p2.I (by decide) _ _, ⟨fun i hi => by rw [pz_Io (by decide)]; exact p3.1 i hi, by rw [pz_Ik (by decide)]; exact p3.2.1, by rw [pz_Ie rfl rfl]; rfl⟩, by rw [pz_Ik (by decide)]; exact p4⟩
theorem g_tv1 (t : Nat → Nat) (p : Nat) : g_tv t 1 p 0 = t p := by
  show 256 * 0 + t p = t p
  omega
theorem g_tv2 (t : Nat → Nat) (p : Nat) : g_tv t 2 p 0 = 256 * t p + t (p + 1) := by
  show 256 * (256 * 0 + t p) + t (p + 1) = _
  omega
theorem g_tv3 (t : Nat → Nat) (p : Nat) : g_tv t 3 p 0 = 65536 * t p + 256 * t (p + 1) + t (p + 2) := by
  show 256 * (256 * (256 * 0 + t p) + t (p + 1)) + t (p + 2) = _
  omega
theorem px_take1 {t : Nat → Nat} {Ln p mx : Nat} {ok : Bool} {σ : sw_St} (ht : ∀ i, t i < 256) (hL : Ln ≤ 1600) (h : px_rd σ t Ln p ok) (hp : p + 1 ≤ Ln) (hm : mx < 2 ^ 30) :
    ∃ σ', F_X5_take σ 1 1 (nI mx) = some (nI (g_c (t p) mx), σ') ∧ pz_sm [224] σ σ' ∧ px_rd σ' t Ln (p + 1) (ok && decide (t p ≤ mx)) ∧ σ'.1 224 1 = σ.1 224 1 := by
  have := px_take (N := 1) ht hL (by omega) h hp (by rw [g_tv1]; have := ht p; omega) hm
  rw [g_tv1] at this
  exact this
theorem px_take2 {t : Nat → Nat} {Ln p mx : Nat} {ok : Bool} {σ : sw_St} (ht : ∀ i, t i < 256) (hL : Ln ≤ 1600) (h : px_rd σ t Ln p ok) (hp : p + 2 ≤ Ln) (hm : mx < 2 ^ 30) :
    ∃ σ', F_X5_take σ 1 2 (nI mx) = some (nI (g_c (256 * t p + t (p + 1)) mx), σ') ∧ pz_sm [224] σ σ' ∧ px_rd σ' t Ln (p + 2) (ok && decide (256 * t p + t (p + 1) ≤ mx)) ∧ σ'.1 224 1 = σ.1 224 1 := by
  have := px_take (N := 2) ht hL (by omega) h hp (by rw [g_tv2]; have := ht p; have := ht (p + 1); omega) hm
  rw [g_tv2] at this
  exact this
theorem px_take3 {t : Nat → Nat} {Ln p mx : Nat} {ok : Bool} {σ : sw_St} (ht : ∀ i, t i < 256) (hL : Ln ≤ 1600) (h : px_rd σ t Ln p ok) (hp : p + 3 ≤ Ln) (hm : mx < 2 ^ 30) :
    ∃ σ', F_X5_take σ 1 3 (nI mx) = some (nI (g_c (65536 * t p + 256 * t (p + 1) + t (p + 2)) mx), σ') ∧ pz_sm [224] σ σ' ∧ px_rd σ' t Ln (p + 3) (ok && decide (65536 * t p + 256 * t (p + 1) + t (p + 2) ≤ mx)) ∧ σ'.1 224 1 = σ.1 224 1 := by
  have := px_take (N := 3) ht hL (by omega) h hp (by rw [g_tv3]; have := ht p; have := ht (p + 1); have := ht (p + 2); omega) hm
  rw [g_tv3] at this
  exact this
/-- what is seen of the fields -/
theorem px_r212 {t : Nat → Nat} {Ln w s p : Nat} {l : Nat → Nat → Nat} {P : Nat → List Nat} {c132 : sw_St → Nat → Nat → Nat → Int32 → Option (Int32 × sw_St)} (ht : ∀ i, t i < 256) (hL : Ln ≤ 1600) (hg : g_ld l P) (hs : s < 6) (hpL : p + l 0 0 ≤ Ln) : ∀ (n fuel j : Nat) (ok : Bool) (σ : sw_St), px_ld σ w l P → px_rd σ t Ln (p + j) ok → j + n = l 0 0 → n < fuel →
    ∃ σ', L_X5_read_212 c132 fuel σ 1 w 46 (nI s) (nI j) = c132 σ' 1 w 46 (nI (s + 1)) ∧ pz_sm [52, 224] σ σ' ∧ px_rd σ' t Ln (p + l 0 0) (ok && g_all (fun i => decide (t (p + i) ≤ 99)) n j) ∧ σ'.1 224 1 = σ.1 224 1 ∧ (∀ i, j ≤ i → i < l 0 0 → σ'.1 52 (8 * s + i) = nI (g_c (t (p + i)) 99)) ∧ ∀ i, i < 8 * s + j ∨ 8 * s + l 0 0 ≤ i → σ'.1 52 i = σ.1 52 i
  | 0, fuel + 1, j, ok, σ, hl, h, hj, hf => by
    have h8 := hg.1
    refine ⟨σ, ?_, pz_sm.refl _ _, ?_, rfl, fun i h1 h2 => by omega, fun _ _ => rfl⟩
    · show S_X5_read_212 c132 _ σ 1 w 46 (nI s) (nI j) = _
      unfold S_X5_read_212
      rw [if_pos (ld_O hl.1), hl.2.2.1, if_pos (nI_le (by omega) (by omega)), nI_1]
    · rw [show l 0 0 = j by omega]
      show px_rd σ t Ln (p + j) (ok && true)
      rw [Bool.and_true]
      exact h
  | n + 1, fuel + 1, j, ok, σ, hl, h, hj, hf => by
    have h8 := hg.1
    obtain ⟨σ1, p1, p2, p3, p4⟩ := px_take1 (mx := 99) ht hL h (by omega) (by omega)
    have m2 : pz_sm [52, 224] σ (sw_uI σ1 52 (8 * s + j) (nI (g_c (t (p + j)) 99))) := (p2.mono (by decide)).I (by decide) _ _
    have p3' : px_rd (sw_uI σ1 52 (8 * s + j) (nI (g_c (t (p + j)) 99))) t Ln (p + (j + 1)) (ok && decide (t (p + j) ≤ 99)) := p3.mv (S := [52]) ((pz_sm.refl _ _).I (by decide) _ _) (by decide) (by decide)
    obtain ⟨σ2, q1, q2, q3, q4, q5, q6⟩ := px_r212 (c132 := c132) ht hL hg hs hpL n fuel (j + 1) _ _ (hl.mv m2 (by decide)) p3' (by omega) (by omega)
    refine ⟨σ2, ?_, m2.trans q2, ?_, by rw [q4, pz_Io (by decide), p4], fun i h1 h2 => ?_, fun i hi => ?_⟩
    · have hq : (46 : Nat) = 38 ∨ 46 = 46 := Or.inr rfl
      show S_X5_read_212 c132 _ σ 1 w 46 (nI s) (nI j) = _
      unfold S_X5_read_212
      rw [if_pos (ld_O hl.1), hl.2.2.1, if_neg (nI_ge (by omega) (by omega)), if_pos (st_O hq), show (99 : Int32) = nI 99 from rfl, p1]
      dsimp only [Option.bind]
      rw [if_pos (st_A6 hq), st_n6 hq, px_ix8, if_pos (pz_inb (show 8 * s + j < 48 by omega) (by omega)), nI_clamp (show 8 * s + j < 2 ^ 31 by omega), nI_1]
      exact q1
    · rw [g_all_s, ← Bool.and_assoc]
      exact q3
    · by_cases e : i = j
      · rw [e, q6 (8 * s + j) (by omega), pz_Ie rfl rfl]
      · exact q5 i (by omega) h2
    · rw [q6 i (by omega), pz_Ik (by omega), p2.r (by decide)]
/-- a sheep -/
def g_sok (l : Nat → Nat → Nat) (t : Nat → Nat) (B : Nat) : Bool := decide (t B ≤ l 0 0 - 1) && decide (256 * t (B + 1) + t (B + 2) ≤ 999) && decide (t (B + 3) ≤ 63) && decide (t (B + 4) ≤ 1) && g_all (fun i => decide (t (B + 5 + i) ≤ 99)) (l 0 0) 0
def g_srow (l : Nat → Nat → Nat) (t : Nat → Nat) (B j : Nat) : Nat := if j = 0 then g_c (t B) (l 0 0 - 1) else if j = 1 then g_c (256 * t (B + 1) + t (B + 2)) 999 else if j = 2 then g_c (t (B + 3)) 63 else if j = 3 then g_c (t (B + 4)) 1 else if j < 4 + l 0 0 then g_c (t (B + 1 + j)) 99 else 0
def g_bs (l : Nat → Nat → Nat) (s : Nat) : Nat := 5 + l 0 1 + s * (5 + l 0 0)
def px_ro (σ : sw_St) (l : Nat → Nat → Nat) (t : Nat → Nat) (u : Nat) : Prop := σ.1 47 u = nI (g_srow l t (g_bs l u) 0) ∧ σ.1 48 u = nI (g_srow l t (g_bs l u) 1) ∧ σ.1 49 u = nI (g_srow l t (g_bs l u) 2) ∧ σ.1 50 u = nI (g_srow l t (g_bs l u) 3) ∧ ∀ j, j < l 0 0 → σ.1 52 (8 * u + j) = nI (g_srow l t (g_bs l u) (4 + j))
theorem px_r132 {t : Nat → Nat} {Ln w : Nat} {l : Nat → Nat → Nat} {P : Nat → List Nat} (ht : ∀ i, t i < 256) (hL : Ln ≤ 1600) (hg : g_ld l P) (hpL : g_bs l (l 0 2) ≤ Ln) : ∀ (n fuel s : Nat) (ok : Bool) (σ : sw_St), px_ld σ w l P → px_rd σ t Ln (g_bs l s) ok → (∀ u, u < s → px_ro σ l t u) → s + n = l 0 2 → n < fuel →
    ∃ σ', L_X5_read_132 fuel σ 1 w 46 (nI s) = some (g_ok1 (ok && g_all (fun u => g_sok l t (g_bs l u)) n s), σ') ∧ pz_sm [47, 48, 49, 50, 52, 224] σ σ' ∧ σ'.1 224 1 = σ.1 224 1 ∧ (∀ u, u < l 0 2 → px_ro σ' l t u) ∧ ∀ u j, l 0 0 ≤ j → j < 8 → σ'.1 52 (8 * u + j) = σ.1 52 (8 * u + j)
  | 0, fuel + 1, s, ok, σ, hl, h, hu, hs, hf => by
    have h6 := hg.2.2.1
    refine ⟨σ, ?_, pz_sm.refl _ _, rfl, fun u h1 => hu u (by omega), fun _ _ _ _ => rfl⟩
    show S_X5_read_132 _ σ 1 w 46 (nI s) = _
    unfold S_X5_read_132
    rw [if_pos (ld_O hl.1), hl.2.2.2.2.1, if_pos (nI_le (by omega) (by omega)), h.2.2, show g_all (fun u => g_sok l t (g_bs l u)) 0 s = true from rfl, Bool.and_true]
    cases ok
    · exact if_pos (Or.inl rfl)
    · exact if_pos (Or.inr rfl)
  | n + 1, fuel + 1, s, ok, σ, hl, h, hu, hs, hf => by
    have h6 := hg.2.2.1
    have h8 := hg.1
    have hs2 : s < l 0 2 := by omega
    have hf0 : 0 < l 0 0 := by have := (hg.2.2.2.2.2.2.1 s hs2).1; omega
    have hq : (46 : Nat) = 38 ∨ 46 = 46 := Or.inr rfl
    have hB : g_bs l s + (5 + l 0 0) ≤ Ln := by
      have : g_bs l s + (5 + l 0 0) = g_bs l (s + 1) := by unfold g_bs; rw [Nat.succ_mul]; omega
      have h2 : g_bs l (s + 1) ≤ g_bs l (l 0 2) := by unfold g_bs; have := Nat.mul_le_mul_right (5 + l 0 0) (show s + 1 ≤ l 0 2 by omega); omega
      omega
    have hBn : g_bs l s + (5 + l 0 0) = g_bs l (s + 1) := by unfold g_bs; rw [Nat.succ_mul]; omega
    obtain ⟨σ1, a1, a2, a3, a4⟩ := px_take1 (mx := l 0 0 - 1) ht hL h (by omega) (by omega)
    have b3 : px_rd (sw_uI σ1 47 s (nI (g_c (t (g_bs l s)) (l 0 0 - 1)))) t Ln (g_bs l s + 1) _ := a3.mv (S := [47]) ((pz_sm.refl _ _).I (by decide) _ _) (by decide) (by decide)
    obtain ⟨σ2, c1, c2, c3, c4⟩ := px_take2 (mx := 999) ht hL b3 (by omega) (by omega)
    have d3 : px_rd (sw_uI σ2 48 s (nI (g_c (256 * t (g_bs l s + 1) + t (g_bs l s + 1 + 1)) 999))) t Ln (g_bs l s + 1 + 2) _ := c3.mv (S := [48]) ((pz_sm.refl _ _).I (by decide) _ _) (by decide) (by decide)
    obtain ⟨σ3, e1, e2, e3, e4⟩ := px_take1 (mx := 63) ht hL d3 (by omega) (by omega)
    have f3 : px_rd (sw_uI σ3 49 s (nI (g_c (t (g_bs l s + 1 + 2)) 63))) t Ln (g_bs l s + 1 + 2 + 1) _ := e3.mv (S := [49]) ((pz_sm.refl _ _).I (by decide) _ _) (by decide) (by decide)
    obtain ⟨σ4, k1, k2, k3, k4⟩ := px_take1 (mx := 1) ht hL f3 (by omega) (by omega)
    have m3 : px_rd (sw_uI σ4 50 s (nI (g_c (t (g_bs l s + 1 + 2 + 1)) 1))) t Ln (g_bs l s + 1 + 2 + 1 + 1) _ := k3.mv (S := [50]) ((pz_sm.refl _ _).I (by decide) _ _) (by decide) (by decide)
    have mm : pz_sm [47, 48, 49, 50, 52, 224] σ (sw_uI σ4 50 s (nI (g_c (t (g_bs l s + 1 + 2 + 1)) 1))) := ((((((((a2.mono (by decide)).I (by decide) _ _).trans (c2.mono (by decide))).I (by decide) _ _).trans (e2.mono (by decide))).I (by decide) _ _).trans (k2.mono (by decide))).I (by decide) _ _)
    obtain ⟨σ5, r1, r2, r3, r4, r5, r6⟩ := px_r212 (p := g_bs l s + 5) (s := s) (c132 := fun σ o1 o3 o4 x6 => L_X5_read_132 fuel σ o1 o3 o4 x6) ht hL hg (by omega) (by omega) (l 0 0) sw_fuel 0 _ _ (hl.mv mm (by decide)) m3 (by omega) (by have := sw_fuel_ge; omega)
    have mA : pz_sm [47, 48, 49, 50, 52, 224] σ σ5 := mm.trans (r2.mono (by decide))
    rw [show g_bs l s + 5 + l 0 0 = g_bs l (s + 1) by omega] at r3
    have z47 : σ5.1 47 s = nI (g_c (t (g_bs l s)) (l 0 0 - 1)) := by rw [r2.r (by decide), pz_Io (by decide), k2.r (by decide), pz_Io (by decide), e2.r (by decide), pz_Io (by decide), c2.r (by decide), pz_Ie rfl rfl]
    have z48 : σ5.1 48 s = nI (g_c (256 * t (g_bs l s + 1) + t (g_bs l s + 2)) 999) := by rw [r2.r (by decide), pz_Io (by decide), k2.r (by decide), pz_Io (by decide), e2.r (by decide), pz_Ie rfl rfl]
    have z49 : σ5.1 49 s = nI (g_c (t (g_bs l s + 3)) 63) := by rw [r2.r (by decide), pz_Io (by decide), k2.r (by decide), pz_Ie rfl rfl]
    have z50 : σ5.1 50 s = nI (g_c (t (g_bs l s + 4)) 1) := by rw [r2.r (by decide), pz_Ie rfl rfl]
    have keep : ∀ u, u ≠ s → σ5.1 47 u = σ.1 47 u ∧ σ5.1 48 u = σ.1 48 u ∧ σ5.1 49 u = σ.1 49 u ∧ σ5.1 50 u = σ.1 50 u := fun u hne => by
      refine ⟨?_, ?_, ?_, ?_⟩
      · rw [r2.r (by decide), pz_Io (by decide), k2.r (by decide), pz_Io (by decide), e2.r (by decide), pz_Io (by decide), c2.r (by decide), pz_Ik hne, a2.r (by decide)]
      · rw [r2.r (by decide), pz_Io (by decide), k2.r (by decide), pz_Io (by decide), e2.r (by decide), pz_Ik hne, c2.r (by decide), pz_Io (by decide), a2.r (by decide)]
      · rw [r2.r (by decide), pz_Io (by decide), k2.r (by decide), pz_Ik hne, e2.r (by decide), pz_Io (by decide), c2.r (by decide), pz_Io (by decide), a2.r (by decide)]
      · rw [r2.r (by decide), pz_Ik hne, k2.r (by decide), pz_Io (by decide), e2.r (by decide), pz_Io (by decide), c2.r (by decide), pz_Io (by decide), a2.r (by decide)]
    have k52 : ∀ i, i < 8 * s ∨ 8 * s + l 0 0 ≤ i → σ5.1 52 i = σ.1 52 i := fun i hi => by
      rw [r6 i (by omega), pz_Io (by decide), k2.r (by decide), pz_Io (by decide), e2.r (by decide), pz_Io (by decide), c2.r (by decide), pz_Io (by decide), a2.r (by decide)]
    have hro : ∀ u, u < s + 1 → px_ro σ5 l t u := fun u hu2 => by
      by_cases e : u = s
      · subst e
        refine ⟨z47, z48, z49, z50, fun j hj => ?_⟩
        rw [r5 j (by omega) hj]
        unfold g_srow
        rw [if_neg (by omega), if_neg (by omega), if_neg (by omega), if_neg (by omega), if_pos (by omega), show g_bs l u + 1 + (4 + j) = g_bs l u + 5 + j by omega]
      · obtain ⟨y1, y2, y3, y4, y5⟩ := hu u (by omega)
        obtain ⟨x1, x2, x3, x4⟩ := keep u e
        exact ⟨by rw [x1]; exact y1, by rw [x2]; exact y2, by rw [x3]; exact y3, by rw [x4]; exact y4, fun j hj => by rw [k52 _ (by omega)]; exact y5 j hj⟩
    obtain ⟨σ6, s1, s2, s3, s4, s5⟩ := px_r132 ht hL hg hpL n fuel (s + 1) _ σ5 (hl.mv mA (by decide)) r3 hro (by omega) (by omega)
    refine ⟨σ6, ?_, mA.trans s2, ?_, s4, fun u j h1 h2 => ?_⟩
    · have hok : ((((((ok && decide (t (g_bs l s) ≤ l 0 0 - 1)) && decide (256 * t (g_bs l s + 1) + t (g_bs l s + 1 + 1) ≤ 999)) && decide (t (g_bs l s + 1 + 2) ≤ 63)) && decide (t (g_bs l s + 1 + 2 + 1) ≤ 1)) && g_all (fun i => decide (t (g_bs l s + 5 + i) ≤ 99)) (l 0 0) 0) && g_all (fun u => g_sok l t (g_bs l u)) n (s + 1)) = (ok && g_all (fun u => g_sok l t (g_bs l u)) (n + 1) s) := by
        rw [g_all_s]
        unfold g_sok
        simp only [Bool.and_assoc]
      rw [← hok, ← s1]
      show S_X5_read_132 _ σ 1 w 46 (nI s) = _
      unfold S_X5_read_132
      have hi : sw_inb (nI s) 6 = true := pz_inb (by omega) (by omega)
      rw [if_pos (ld_O hl.1), hl.2.2.2.2.1, if_neg (nI_ge hs2 (by omega)), if_pos (st_O hq), if_pos (ld_O hl.1), hl.2.2.1, show nI (l 0 0) - 1 = nI (l 0 0 - 1) from pk_sub (b := 1) (by omega), a1]
      dsimp only [Option.bind]
      rw [if_pos (st_A1 hq), st_n1 hq, if_pos hi, if_pos (st_O hq), nI_clamp (show s < 2 ^ 31 by omega), show (999 : Int32) = nI 999 from rfl, c1]
      dsimp only
      rw [if_pos (st_A2 hq), st_n2 hq, if_pos hi, if_pos (st_O hq), show (63 : Int32) = nI 63 from rfl, e1]
      dsimp only
      rw [if_pos (st_A3 hq), st_n3 hq, if_pos hi, if_pos (st_O hq), show F_X5_take (sw_uI σ3 (46 + 3) s (nI (g_c (t (g_bs l s + 1 + 2)) 63))) 1 1 1 = _ from k1]
      dsimp only
      rw [if_pos (st_A4 hq), st_n4 hq, if_pos hi, show (0 : Int32) = nI 0 from rfl, r1]
    · rw [s3, r4, pz_Io (by decide), k4, pz_Io (by decide), e4, pz_Io (by decide), c4, pz_Io (by decide), a4]
    · rw [s5 u j h1 h2]
      exact k52 _ (by omega)

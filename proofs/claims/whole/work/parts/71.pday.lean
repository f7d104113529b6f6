/-! A day of all sheep. -/
def g_kpush (K : List (Nat × Nat × Nat × Nat)) (x : Nat × Nat × Nat × Nat) : List (Nat × Nat × Nat × Nat) := if K.length < 40 then K ++ [x] else K.drop 1 ++ [x]
theorem g_kpush_len {K : List (Nat × Nat × Nat × Nat)} {x : Nat × Nat × Nat × Nat} (h : K.length ≤ 40) : (g_kpush K x).length = min 40 (K.length + 1) := by
  unfold g_kpush
  split
  · simp; omega
  · simp; omega
theorem g_kpush_at {K : List (Nat × Nat × Nat × Nat)} {x d : Nat × Nat × Nat × Nat} (h : K.length ≤ 40) {i : Nat} (hi : i < (g_kpush K x).length) : (g_kpush K x).getD i d = if i + 1 = (g_kpush K x).length then x else if K.length < 40 then K.getD i d else K.getD (i + 1) d := by
  have hl := g_kpush_len (x := x) h
  rw [hl] at hi ⊢
  unfold g_kpush
  by_cases h40 : K.length < 40
  · rw [if_pos h40, if_pos h40]
    by_cases e : i + 1 = min 40 (K.length + 1)
    · rw [if_pos e, List.getD_eq_getElem?_getD, List.getElem?_append_right (by omega), show i - K.length = 0 by omega]
      rfl
    · rw [if_neg e, List.getD_eq_getElem?_getD, List.getElem?_append_left (by omega), ← List.getD_eq_getElem?_getD]
  · rw [if_neg h40, if_neg h40]
    by_cases e : i + 1 = min 40 (K.length + 1)
    · rw [if_pos e, List.getD_eq_getElem?_getD, List.getElem?_append_right (by simp; omega), show i - (K.drop 1).length = 0 by simp; omega]
      rfl
    · rw [if_neg e, List.getD_eq_getElem?_getD, List.getElem?_append_left (by simp; omega), List.getElem?_drop, ← List.getD_eq_getElem?_getD, Nat.add_comm]
theorem g_kpush_mem {K : List (Nat × Nat × Nat × Nat)} {x y : Nat × Nat × Nat × Nat} (h : y ∈ g_kpush K x) : y ∈ K ∨ y = x := by
  unfold g_kpush at h
  split at h
  · rcases List.mem_append.mp h with z | z
    · exact Or.inl z
    · exact Or.inr (by simpa using z)
  · rcases List.mem_append.mp h with z | z
    · exact Or.inl (List.mem_of_mem_drop z)
    · exact Or.inr (by simpa using z)
theorem px_keep {σ : sw_St} {day s k wool : Nat} {K : List (Nat × Nat × Nat × Nat)} (hK : px_kp σ 38 K) (h40 : K.length ≤ 40) (h0 : σ.1 38 0 = nI day) (hw : σ.1 40 s = nI wool) (hs : s < 6) (hx : g_kx (day, s, k, wool)) : ∃ σ', F_X8_keep σ 38 (nI s) (nI k) = some ((), σ') ∧ px_kp σ' 38 (g_kpush K (day, s, k, wool)) ∧ pz_sm [38, 45] σ σ' ∧ (∀ j, j ≠ 10 → j ≠ 11 → σ'.1 38 j = σ.1 38 j) := by
  obtain ⟨kf, d1, d2, d3, d4⟩ := hK
  obtain ⟨x1, x2, x3, x4⟩ := hx
  dsimp only at x1 x2 x3 x4
  have hq : (38 : Nat) = 38 ∨ 38 = 46 := Or.inl rfl
  have hi : sw_inb (nI s) 6 = true := pz_inb hs (by omega)
  have epk : ((nI day * 6 + nI s) * 10 + nI k) * 1000 + nI wool = nI (g_pk (day, s, k, wool)) := by
    rw [show (6 : Int32) = nI 6 from rfl, show (10 : Int32) = nI 10 from rfl, show (1000 : Int32) = nI 1000 from rfl, pk_mul, nI_add, pk_mul, nI_add, pk_mul, nI_add]
    rfl
  have fin : ∀ (σ1 : sw_St) (r : Nat), r < 40 → σ1.1 38 0 = nI day → σ1.1 40 s = nI wool → S_X8_keep_53 σ1 38 (nI s) (nI k) (nI r) = some ((), sw_uI σ1 45 r (nI (g_pk (day, s, k, wool)))) := fun σ1 r hr e1 e2 => by
    unfold S_X8_keep_53
    simp only [st_O hq, st_A2 hq, st_n2 hq, hi, st_A7 hq, st_n7 hq, pz_inb (show r < 40 from hr) (by omega), if_true, nI_clamp (show s < 2 ^ 31 by omega), nI_clamp (show r < 2 ^ 31 by omega)]
    rw [e1, show σ1.1 (38 + 2) s = nI wool from e2, epk]
  have hlen := g_kpush_len (x := (day, s, k, wool)) h40
  unfold F_X8_keep
  rw [d2, d3]
  simp only [st_O hq, if_true]
  by_cases h : K.length < 40
  · have e : nI kf + nI K.length - (nI kf + nI K.length) / 40 * 40 = nI ((kf + K.length) % 40) := by
      rw [nI_add, show (40 : Int32) = nI 40 from rfl, pk_rem (by omega) (by omega) (by omega)]
    have hr : (kf + K.length) % 40 < 40 := Nat.mod_lt _ (by omega)
    rw [if_neg (show ¬ (40 : Int32) ≤ nI K.length from nI_ge (b := 40) h (by omega)), e, nI_1, fin _ _ hr (by rw [pz_Ik (by decide)]; exact h0) (by rw [pz_Io (by decide)]; exact hw)]
    refine ⟨_, rfl, ⟨kf, d1, ?_, ?_, fun i hi => ?_⟩, ((pz_sm.refl _ σ).I (by decide) _ _).I (by decide) _ _, fun j h1 h2 => by rw [pz_Io (by decide), pz_Ik h2]⟩
    · rw [pz_Io (by decide), pz_Ik (by decide)]; exact d2
    · rw [pz_Io (by decide), pz_Ie rfl rfl, hlen]; congr 1; omega
    · rw [g_kpush_at h40 hi, if_pos h]
      rw [hlen] at hi ⊢
      by_cases ei : i + 1 = min 40 (K.length + 1)
      · rw [if_pos ei, pz_Ie rfl (by congr 1; omega)]
      · rw [if_neg ei, pz_Ik (by omega), pz_Io (by decide)]
        exact d4 i (by omega)
  · have e : nI kf + 1 - (nI kf + 1) / 40 * 40 = nI ((kf + 1) % 40) := by
      rw [nI_1, show (40 : Int32) = nI 40 from rfl, pk_rem (by omega) (by omega) (by omega)]
    rw [if_pos (show (40 : Int32) ≤ nI K.length from nI_le (a := 40) (by omega) (by omega)), e, fin _ _ d1 (by rw [pz_Ik (by decide)]; exact h0) (by rw [pz_Io (by decide)]; exact hw)]
    refine ⟨_, rfl, ⟨(kf + 1) % 40, Nat.mod_lt _ (by omega), ?_, ?_, fun i hi => ?_⟩, ((pz_sm.refl _ σ).I (by decide) _ _).I (by decide) _ _, fun j h1 h2 => by rw [pz_Io (by decide), pz_Ik h1]⟩
    · rw [pz_Io (by decide), pz_Ie rfl rfl]
    · rw [pz_Io (by decide), pz_Ik (by decide), d3, hlen]; congr 1; omega
    · rw [g_kpush_at h40 hi, if_neg h]
      rw [hlen] at hi ⊢
      by_cases ei : i + 1 = min 40 (K.length + 1)
      · rw [if_pos ei, pz_Ie rfl (by omega)]
      · rw [if_neg ei, pz_Ik (by omega), pz_Io (by decide), show ((kf + 1) % 40 + i) % 40 = (kf + (i + 1)) % 40 by omega]
        exact d4 (i + 1) (by omega)
/-- a sheep's numbers in the row, apart from the others and from what is kept -/
theorem pm_shift : ∀ (n fuel k : Nat) (τ : sw_St) (x1 x2 : Int32), k + n = 241 → n < fuel → ∃ τ', L_X11_isKept_23 fuel τ x1 x2 (nI k) = S_X11_isKept_64 τ' x1 x2 ∧ (∀ i, k ≤ i → i < 241 → τ'.1 37 i = τ.1 37 (i + 4)) ∧ (∀ i, i < k ∨ 241 ≤ i → τ'.1 37 i = τ.1 37 i) ∧ pm_sm [37] [] τ τ'
  | 0, fuel + 1, k, τ, x1, x2, hk, hf => by
    refine ⟨τ, ?_, fun i h1 h2 => by omega, fun _ _ => rfl, pm_sm.refl _ _ _⟩
    show S_X11_isKept_23 _ τ x1 x2 (nI k) = _
    unfold S_X11_isKept_23
    rw [if_pos (show (241 : Int32) ≤ nI k from nI_le (a := 241) (by omega) (by omega))]
  | n + 1, fuel + 1, k, τ, x1, x2, hk, hf => by
    obtain ⟨τ', p1, p2, p3, p4⟩ := pm_shift n fuel (k + 1) (sw_uI τ 37 k (τ.1 37 (k + 4))) x1 x2 (by omega) (by omega)
    refine ⟨τ', ?_, fun i h1 h2 => ?_, fun i hi => by rw [p3 i (by omega), pz_Ik (by omega)], ((pm_sm.refl _ _ τ).I (by decide) (by decide) _ _).trans p4⟩
    · show S_X11_isKept_23 _ τ x1 x2 (nI k) = _
      unfold S_X11_isKept_23
      rw [if_neg (show ¬ (241 : Int32) ≤ nI k from nI_ge (b := 241) (by omega) (by omega)), show nI k + 4 = nI (k + 4) from by rw [show (4 : Int32) = nI 4 from rfl, nI_add], if_pos (pz_inb (by omega) (by omega)), if_pos (pz_inb (by omega) (by omega)), nI_clamp (by omega), nI_clamp (by omega), nI_1]
      exact p1
    · by_cases e : i = k
      · rw [e, p3 k (by omega), pz_Ie rfl rfl]
      · rw [p2 i (by omega) h2, pz_Ik (by omega)]
theorem pm_isKept {τ : sw_St} {l : Nat → Nat → Nat} {D : g_D} {s k wool : Nat} (hD : pm_st τ 37 0 l D) (h1 : l 0 1 ≤ 10) (h2 : l 0 2 ≤ 6) (h40 : D.2.2.length ≤ 40) (hs : s < 6) (hw : τ.1 37 (13 + 12 * s) = nI wool) (ht : τ.1 0 58 = 0) : ∃ τ', F_X11_isKept τ (nI s) (nI k) = some ((), τ') ∧ pm_st τ' 37 0 l (D.1, D.2.1, g_kpush D.2.2 (D.1 0, s, k, wool)) ∧ pm_sm [37] [] τ τ' := by
  obtain ⟨c1, c2, c3, c4, c5, c6⟩ := hD
  rw [Nat.zero_add] at c5
  have hlen := g_kpush_len (x := (D.1 0, s, k, wool)) h40
  -- the last four numbers
  have fin : ∀ τ1 : sw_St, τ1.1 37 84 = nI (g_kpush D.2.2 (D.1 0, s, k, wool)).length → τ1.1 37 0 = nI (D.1 0) → τ1.1 37 (13 + 12 * s) = nI wool → ∃ τ', S_X11_isKept_64 τ1 (nI s) (nI k) = some ((), τ') ∧ (∀ i, i < 81 + 4 * (g_kpush D.2.2 (D.1 0, s, k, wool)).length ∨ 85 + 4 * (g_kpush D.2.2 (D.1 0, s, k, wool)).length ≤ i → τ'.1 37 i = τ1.1 37 i) ∧ τ'.1 37 (81 + 4 * (g_kpush D.2.2 (D.1 0, s, k, wool)).length) = nI (D.1 0) ∧ τ'.1 37 (82 + 4 * (g_kpush D.2.2 (D.1 0, s, k, wool)).length) = nI s ∧ τ'.1 37 (83 + 4 * (g_kpush D.2.2 (D.1 0, s, k, wool)).length) = nI k ∧ τ'.1 37 (84 + 4 * (g_kpush D.2.2 (D.1 0, s, k, wool)).length) = nI wool ∧ pm_sm [37] [] τ1 τ' := fun τ1 e84 e0 ew => by
    have hn1 : 1 ≤ (g_kpush D.2.2 (D.1 0, s, k, wool)).length := by omega
    have hn2 : (g_kpush D.2.2 (D.1 0, s, k, wool)).length ≤ 40 := by omega
    generalize (g_kpush D.2.2 (D.1 0, s, k, wool)).length = N at e84 hn1 hn2
    have i0 : (85 : Int32) + 4 * nI N - 4 = nI (81 + 4 * N) := by
      rw [pm_ix, pm_sb (by omega)]
      congr 1
      omega
    have i1 : nI (81 + 4 * N) + 1 = nI (82 + 4 * N) := by rw [nI_1]; congr 1; omega
    have i2 : nI (81 + 4 * N) + 2 = nI (83 + 4 * N) := by rw [show (2 : Int32) = nI 2 from rfl, nI_add]; congr 1; omega
    have i3 : nI (81 + 4 * N) + 3 = nI (84 + 4 * N) := by rw [show (3 : Int32) = nI 3 from rfl, nI_add]; congr 1; omega
    refine ⟨sw_uI (sw_uI (sw_uI (sw_uI τ1 37 (81 + 4 * N) (nI (D.1 0))) 37 (82 + 4 * N) (nI s)) 37 (83 + 4 * N) (nI k)) 37 (84 + 4 * N) (nI wool), ?_, fun i hi => ?_, ?_, ?_, ?_, ?_, ?_⟩
    · unfold S_X11_isKept_64
      rw [e84, i0, i1, i2, i3, e0, if_pos (pz_inb (by omega) (by omega)), if_pos (pz_inb (by omega) (by omega)), if_pos (pz_inb (by omega) (by omega)), nI_clamp (by omega), nI_clamp (by omega), nI_clamp (by omega), pm_woolOf hs]
      dsimp only [Option.bind]
      rw [if_pos (pz_inb (by omega) (by omega)), nI_clamp (by omega), pz_Ik (by omega), pz_Ik (by omega), pz_Ik (by omega), ew]
    · rw [pz_Ik (by omega), pz_Ik (by omega), pz_Ik (by omega), pz_Ik (by omega)]
    · rw [pz_Ik (by omega), pz_Ik (by omega), pz_Ik (by omega), pz_Ie rfl rfl]
    · rw [pz_Ik (by omega), pz_Ik (by omega), pz_Ie rfl rfl]
    · rw [pz_Ik (by omega), pz_Ie rfl rfl]
    · rw [pz_Ie rfl rfl]
    · exact ((((pm_sm.refl _ _ τ1).I (by decide) (by decide) _ _).I (by decide) (by decide) _ _).I (by decide) (by decide) _ _).I (by decide) (by decide) _ _
  -- all together
  have all : ∀ τ1 τ' : sw_St, (∀ i, i < 84 → τ1.1 37 i = τ.1 37 i) → τ1.1 37 84 = nI (g_kpush D.2.2 (D.1 0, s, k, wool)).length → (∀ i j, i + 1 < (g_kpush D.2.2 (D.1 0, s, k, wool)).length → j < 4 → τ1.1 37 (85 + 4 * i + j) = if D.2.2.length < 40 then τ.1 37 (85 + 4 * i + j) else τ.1 37 (85 + 4 * (i + 1) + j)) → (∀ i, i < 81 + 4 * (g_kpush D.2.2 (D.1 0, s, k, wool)).length ∨ 85 + 4 * (g_kpush D.2.2 (D.1 0, s, k, wool)).length ≤ i → τ'.1 37 i = τ1.1 37 i) → τ'.1 37 (81 + 4 * (g_kpush D.2.2 (D.1 0, s, k, wool)).length) = nI (D.1 0) → τ'.1 37 (82 + 4 * (g_kpush D.2.2 (D.1 0, s, k, wool)).length) = nI s → τ'.1 37 (83 + 4 * (g_kpush D.2.2 (D.1 0, s, k, wool)).length) = nI k → τ'.1 37 (84 + 4 * (g_kpush D.2.2 (D.1 0, s, k, wool)).length) = nI wool → pm_st τ' 37 0 l (D.1, D.2.1, g_kpush D.2.2 (D.1 0, s, k, wool)) := fun τ1 τ' a1 a2 a3 b1 b2 b3 b4 b5 => by
    have hn1 : 1 ≤ (g_kpush D.2.2 (D.1 0, s, k, wool)).length := by omega
    refine ⟨by rw [b1 0 (by omega), a1 0 (by omega)]; exact c1, by rw [b1 _ (by omega), a1 _ (by omega)]; exact c2, fun j hj => by rw [b1 _ (by omega), a1 _ (by omega)]; exact c3 j hj, fun t j ht hj => by rw [b1 _ (by omega), a1 _ (by omega)]; exact c4 t j ht hj, by rw [Nat.zero_add, b1 84 (by omega)]; exact a2, fun i hi => ?_⟩
    dsimp only at hi ⊢
    rw [g_kpush_at h40 hi]
    simp only [Nat.zero_add]
    by_cases e : i + 1 = (g_kpush D.2.2 (D.1 0, s, k, wool)).length
    · rw [if_pos e, show 85 + 4 * i = 81 + 4 * (g_kpush D.2.2 (D.1 0, s, k, wool)).length by omega, show 81 + 4 * (g_kpush D.2.2 (D.1 0, s, k, wool)).length + 1 = 82 + 4 * (g_kpush D.2.2 (D.1 0, s, k, wool)).length by omega, show 81 + 4 * (g_kpush D.2.2 (D.1 0, s, k, wool)).length + 2 = 83 + 4 * (g_kpush D.2.2 (D.1 0, s, k, wool)).length by omega, show 81 + 4 * (g_kpush D.2.2 (D.1 0, s, k, wool)).length + 3 = 84 + 4 * (g_kpush D.2.2 (D.1 0, s, k, wool)).length by omega]
      exact ⟨b2, b3, b4, b5⟩
    · rw [if_neg e, b1 _ (by omega), b1 _ (by omega), b1 _ (by omega), b1 _ (by omega)]
      have q0 := a3 i 0 (by omega) (by omega)
      have q1 := a3 i 1 (by omega) (by omega)
      have q2 := a3 i 2 (by omega) (by omega)
      have q3 := a3 i 3 (by omega) (by omega)
      rw [Nat.add_zero, Nat.add_zero] at q0
      rw [q0, q1, q2, q3]
      simp only [Nat.zero_add] at c6
      by_cases h : D.2.2.length < 40
      · simp only [if_pos h]
        exact c6 i (by omega)
      · simp only [if_neg h]
        exact c6 (i + 1) (by omega)
  unfold F_X11_isKept
  rw [ht, if_pos rfl, c5]
  by_cases h : D.2.2.length < 40
  · rw [if_neg (show ¬ nI D.2.2.length = (40 : Int32) from by rw [show (40 : Int32) = nI 40 from rfl, nI_eq (by omega) (by omega)]; omega), nI_1]
    have e84 : (sw_uI τ 37 84 (nI (D.2.2.length + 1))).1 37 84 = nI (g_kpush D.2.2 (D.1 0, s, k, wool)).length := by
      rw [pz_Ie rfl rfl, hlen]
      congr 1
      omega
    obtain ⟨τ', p1, p2, p3, p4, p5, p6, p7⟩ := fin (sw_uI τ 37 84 (nI (D.2.2.length + 1))) e84 (by rw [pz_Ik (by decide)]; exact c1) (by rw [pz_Ik (by omega)]; exact hw)
    exact ⟨τ', p1, all _ τ' (fun i hi => by rw [pz_Ik (by omega)]) e84 (fun i j hi hj => by rw [if_pos h, pz_Ik (by omega)]) p2 p3 p4 p5 p6, ((pm_sm.refl _ _ τ).I (by decide) (by decide) _ _).trans p7⟩
  · rw [if_pos (show nI D.2.2.length = (40 : Int32) from by rw [show D.2.2.length = 40 by omega]; rfl)]
    obtain ⟨τ1, q1, q2, q3, q4⟩ := pm_shift 156 sw_fuel 85 τ (nI s) (nI k) (by omega) (by have := sw_fuel_ge; omega)
    have e84 : τ1.1 37 84 = nI (g_kpush D.2.2 (D.1 0, s, k, wool)).length := by
      rw [q3 84 (by omega), c5, hlen]
      congr 1
      omega
    obtain ⟨τ', p1, p2, p3, p4, p5, p6, p7⟩ := fin τ1 e84 (by rw [q3 0 (by omega)]; exact c1) (by rw [q3 _ (by omega)]; exact hw)
    exact ⟨τ', by rw [show (85 : Int32) = nI 85 from rfl, q1]; exact p1, all τ1 τ' (fun i hi => q3 i (by omega)) e84 (fun i j hi hj => by rw [if_neg h, q2 _ (by omega) (by omega), show 85 + 4 * i + j + 4 = 85 + 4 * (i + 1) + j by omega]) p2 p3 p4 p5 p6, q4.trans p7⟩

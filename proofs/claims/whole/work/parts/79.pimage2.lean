/-! Both write the same image. -/
theorem g_drop {L : List Nat} {k : Nat} (h : k < L.length) : L.drop k = L.getD k 0 :: L.drop (k + 1) := by
  rw [List.getD_eq_getElem?_getD, List.getElem?_eq_getElem h]
  exact List.drop_eq_getElem_cons h
/-- a check of bytes that a cell of the class holds -/
theorem px_ckl {σ : sw_St} {o N : Nat} {L : List Nat} (ho : sw_isA sw_gX o 1 = true ∧ (sw_isA sw_gX o 0 || sw_isA sw_gX o 1 || sw_isA sw_gX o 2 || sw_isA sw_gX o 3) = true) (hN : L.length ≤ N) (hN2 : sw_ln sw_gX o = N) (hN3 : N < 2 ^ 30) (hb : ∀ i, i < L.length → σ.1 o i = sB (L.getD i 0)) (h256 : ∀ b ∈ L, b < 256) : ∀ (n fuel k c : Nat), k + n = L.length → n < fuel → c < 251 → L_X5_checkOf_6 fuel σ o (nI L.length) (nI c) (nI k) = some (nI (g_ck c (L.drop k)), σ)
  | 0, fuel + 1, k, c, hk, hf, hc => by
    show S_X5_checkOf_6 _ σ o (nI L.length) (nI c) (nI k) = _
    unfold S_X5_checkOf_6 S_X5_checkOf_39
    rw [if_pos (nI_le (by omega) (by omega)), List.drop_eq_nil_of_le (by omega)]
    rfl
  | n + 1, fuel + 1, k, c, hk, hf, hc => by
    have hkl : k < L.length := by omega
    have hm : L.getD k 0 < 256 := h256 _ (by rw [List.getD_eq_getElem?_getD, List.getElem?_eq_getElem hkl]; exact List.getElem_mem hkl)
    show S_X5_checkOf_6 _ σ o (nI L.length) (nI c) (nI k) = _
    unfold S_X5_checkOf_6
    rw [if_neg (nI_ge (by omega) (by omega)), if_pos ho.2, hN2, if_neg (nI_ge (by omega) (by omega)), if_pos ho.1, if_pos (pz_inb (by omega) (by omega)), nI_clamp (by omega), hb k hkl, sB_255 hm, show (3 : Int32) * nI c + nI (L.getD k 0) - (3 * nI c + nI (L.getD k 0)) / 251 * 251 = nI ((3 * c + L.getD k 0) % 251) from by rw [show (3 : Int32) = nI 3 from rfl, pk_mul, nI_add, show (251 : Int32) = nI 251 from rfl, pk_rem (by omega) (by omega) (by omega)], nI_1, g_drop hkl]
    exact px_ckl ho hN hN2 hN3 hb h256 n fuel (k + 1) _ (by omega) (by omega) (Nat.mod_lt _ (by omega))
theorem pm_ckl {τ : sw_St} {o N : Nat} {L : List Nat} (ho : sw_isA sw_gM o 0 = true) (hN : L.length ≤ N) (hN2 : sw_ln sw_gM o = N) (hN3 : N < 2 ^ 30) (hb : ∀ i, i < L.length → τ.1 o i = nI (L.getD i 0)) (h256 : ∀ b ∈ L, b < 256) : ∀ (n fuel k c : Nat), k + n = L.length → n < fuel → c < 251 → L_X11_checked_6 fuel τ o (nI L.length) (nI c) (nI k) = some (nI (g_ck c (L.drop k)), τ)
  | 0, fuel + 1, k, c, hk, hf, hc => by
    show S_X11_checked_6 _ τ o (nI L.length) (nI c) (nI k) = _
    unfold S_X11_checked_6
    rw [if_pos (nI_le (by omega) (by omega)), List.drop_eq_nil_of_le (by omega)]
    rfl
  | n + 1, fuel + 1, k, c, hk, hf, hc => by
    have hkl : k < L.length := by omega
    have hm : L.getD k 0 < 256 := h256 _ (by rw [List.getD_eq_getElem?_getD, List.getElem?_eq_getElem hkl]; exact List.getElem_mem hkl)
    show S_X11_checked_6 _ τ o (nI L.length) (nI c) (nI k) = _
    unfold S_X11_checked_6
    rw [if_neg (nI_ge (by omega) (by omega)), if_pos ho, hN2, if_pos (pz_inb (by omega) (by omega)), nI_clamp (by omega), hb k hkl, show (3 : Int32) * nI c + nI (L.getD k 0) - (3 * nI c + nI (L.getD k 0)) / 251 * 251 = nI ((3 * c + L.getD k 0) % 251) from by rw [show (3 : Int32) = nI 3 from rfl, pk_mul, nI_add, show (251 : Int32) = nI 251 from rfl, pk_rem (by omega) (by omega) (by omega)], nI_1, g_drop hkl]
    exact pm_ckl ho hN hN2 hN3 hb h256 n fuel (k + 1) _ (by omega) (by omega) (Nat.mod_lt _ (by omega))
theorem px_w109 {w : Nat} {l : Nat → Nat → Nat} {P : Nat → List Nat} {nm : g_N} {U : List g_D} {F : List (Nat × Nat × Nat)} {T : List Nat} {sd : Nat} {rf : Nat → Int32} {ft : Int32 × Int32} {D : g_D} {s : Nat} {c54 : sw_St → Nat → Nat → Int32 → Option (Unit × sw_St)} (h8 : l 0 0 ≤ 8) (hs6 : s < 6) (hs : s < l 0 2) (hr : ∀ f, f < 8 → D.2.1 s (4 + f) ≤ 99) : ∀ (n fuel f : Nat) (im : List Nat) (σ : sw_St), RX σ w l P nm D U F T sd rf ft im → f + n = l 0 0 → n < fuel → im.length + n < 94 → ∃ σ', L_X5_write_109 c54 fuel σ w 38 (nI s) (nI f) = c54 σ' w 38 (nI (s + 1)) ∧ RX σ' w l P nm D U F T sd rf ft (g_if (D.2.1 s) n f im)
  | 0, fuel + 1, f, im, σ, h, hf, hfu, hl => by
    refine ⟨σ, ?_, h⟩
    show S_X5_write_109 c54 _ σ w 38 (nI s) (nI f) = _
    unfold S_X5_write_109
    rw [if_pos (ld_O h.1.1), h.1.2.2.1, if_pos (nI_le (by omega) (by omega)), nI_1]
  | n + 1, fuel + 1, f, im, σ, h, hf, hfu, hl => by
    have hv := hr f (by omega)
    obtain ⟨σ1, p1, p2⟩ := px_puA (v := D.2.1 s (4 + f)) (by omega) h (by omega)
    rw [Nat.mod_eq_of_lt (by omega)] at p2
    obtain ⟨σ2, q1, q2⟩ := px_w109 (c54 := c54) h8 hs6 hs hr n fuel (f + 1) _ σ1 p2 (by omega) (by omega) (by simp; omega)
    refine ⟨σ2, ?_, q2⟩
    show S_X5_write_109 c54 _ σ w 38 (nI s) (nI f) = _
    unfold S_X5_write_109
    rw [if_pos (ld_O h.1.1), h.1.2.2.1, if_neg (nI_ge (by omega) (by omega)), if_pos (st_O (Or.inl rfl)), if_pos (st_A6 (Or.inl rfl)), st_n6 (Or.inl rfl), px_ix8, if_pos (pz_inb (by omega) (by omega)), nI_clamp (by omega), (h.2.2.2.1.2.2.2.1 s hs).2.2.2.2.2 f (by omega), p1]
    dsimp only [Option.bind]
    rw [nI_1]
    exact q1
theorem px_w54 {w : Nat} {l : Nat → Nat → Nat} {P : Nat → List Nat} {nm : g_N} {U : List g_D} {F : List (Nat × Nat × Nat)} {T : List Nat} {sd : Nat} {rf : Nat → Int32} {ft : Int32 × Int32} {D : g_D} (hg : g_ld l P) (hk : g_dk l D) : ∀ (n fuel s : Nat) (im : List Nat) (σ : sw_St), RX σ w l P nm D U F T sd rf ft im → (∀ b ∈ im, b < 256) → s + n = l 0 2 → n < fuel → im.length + n * (5 + l 0 0) < 94 → ∃ σ', L_X5_write_54 fuel σ w 38 (nI s) = some ((), σ') ∧ RX σ' w l P nm D U F T sd rf ft (g_is l D n s im ++ [g_ck 227 (g_is l D n s im)])
  | 0, fuel + 1, s, im, σ, h, h256, hs, hfu, hl => by
    have h3 := hg.2.2.1
    have eck : F_X5_checkOf σ 225 (nI im.length) = some (nI (g_ck 227 im), σ) := px_ckl (o := 225) (N := 94) (L := im) ⟨by decide +kernel, by decide +kernel⟩ (by omega) (by decide +kernel) (by omega) h.2.2.2.2.2.2.2.2.2.2.1.2 h256 im.length sw_fuel 0 227 (by omega) (by have := sw_fuel_ge; omega) (by omega)
    have hck := g_ck_lt im 227 (by omega)
    obtain ⟨σ1, p1, p2⟩ := px_puA (v := g_ck 227 im) (by omega) h (by omega)
    rw [Nat.mod_eq_of_lt (by omega)] at p2
    refine ⟨σ1, ?_, p2⟩
    show S_X5_write_54 _ σ w 38 (nI s) = _
    unfold S_X5_write_54
    rw [if_pos (ld_O h.1.1), h.1.2.2.2.2.1, if_pos (nI_le (by omega) (by omega)), h.2.2.2.2.2.2.2.2.2.2.1.1, eck]
    dsimp only [Option.bind]
    rw [p1]
  | n + 1, fuel + 1, s, im, σ, h, h256, hs, hfu, hl => by
    have h8 := hg.1
    have h3 := hg.2.2.1
    have hsl : s < l 0 2 := by omega
    obtain ⟨⟨r1, r2, r3, r4, r5, r6⟩, hf⟩ := hk.2.2.2.1 s hsl
    have hmul : (n + 1) * (5 + l 0 0) = n * (5 + l 0 0) + (5 + l 0 0) := by rw [Nat.add_mul]; omega
    obtain ⟨s1, s2, s3, s4, s5, s6⟩ := h.2.2.2.1.2.2.2.1 s hsl
    have hi : sw_inb (nI s) 6 = true := pz_inb (by omega) (by omega)
    obtain ⟨σ1, p1, p2⟩ := px_puA (v := D.2.1 s 0) (by omega) h (by omega)
    rw [Nat.mod_eq_of_lt (by omega)] at p2
    obtain ⟨σ2, q1, q2⟩ := px_puB (v := D.2.1 s 1) (by omega) p2 (by simp; omega)
    rw [Nat.mod_eq_of_lt (show D.2.1 s 1 / 256 < 256 by omega)] at q2
    obtain ⟨σ3, t1, t2⟩ := px_puA (v := D.2.1 s 2) (by omega) q2 (by simp; omega)
    rw [Nat.mod_eq_of_lt (show D.2.1 s 2 < 256 by omega)] at t2
    obtain ⟨σ4, u1, u2⟩ := px_puA (v := D.2.1 s 3) (by omega) t2 (by simp; omega)
    rw [Nat.mod_eq_of_lt (show D.2.1 s 3 < 256 by omega)] at u2
    obtain ⟨σ5, v1, v2⟩ := px_w109 (c54 := fun σ o1 o2 x3 => L_X5_write_54 fuel σ o1 o2 x3) h8 (by omega) hsl r6 (l 0 0) sw_fuel 0 _ σ4 u2 (by omega) (by have := sw_fuel_ge; omega) (by simp; omega)
    have h256' : ∀ b ∈ g_if (D.2.1 s) (l 0 0) 0 (im ++ [D.2.1 s 0] ++ [D.2.1 s 1 / 256, D.2.1 s 1 % 256] ++ [D.2.1 s 2] ++ [D.2.1 s 3]), b < 256 := g_if_mem _ _ _ (fun b hb => by
      simp only [List.mem_append, List.mem_cons, List.not_mem_nil, or_false] at hb
      rcases hb with (((z | z) | z | z) | z) | z
      · exact h256 b z
      all_goals omega) (fun f h1 h2 => by have := r6 f (by omega); omega)
    obtain ⟨σ6, w1, w2⟩ := px_w54 hg hk n fuel (s + 1) _ σ5 v2 h256' (by omega) (by omega) (by rw [g_if_len]; simp; omega)
    refine ⟨σ6, ?_, w2⟩
    have hq : (38 : Nat) = 38 ∨ 38 = 46 := Or.inl rfl
    have y2 : σ1.1 (38 + 2) s = nI (D.2.1 s 1) := (p2.2.2.2.1.2.2.2.1 s hsl).2.1
    have y3 : σ2.1 (38 + 3) s = nI (D.2.1 s 2) := (q2.2.2.2.1.2.2.2.1 s hsl).2.2.1
    have y4 : σ3.1 (38 + 4) s = nI (D.2.1 s 3) := (t2.2.2.2.1.2.2.2.1 s hsl).2.2.2.1
    show S_X5_write_54 _ σ w 38 (nI s) = _
    unfold S_X5_write_54
    rw [if_pos (ld_O h.1.1), h.1.2.2.2.2.1, if_neg (nI_ge hsl (by omega)), if_pos (st_O hq), if_pos (st_A1 hq), st_n1 hq, if_pos hi, nI_clamp (by omega), s1, p1]
    dsimp only [Option.bind]
    rw [if_pos (st_O hq), if_pos (st_A2 hq), st_n2 hq, if_pos hi, y2, q1]
    dsimp only
    rw [if_pos (st_O hq), if_pos (st_A3 hq), st_n3 hq, if_pos hi, y3, t1]
    dsimp only
    rw [if_pos (st_O hq), if_pos (st_A4 hq), st_n4 hq, if_pos hi, y4, u1]
    dsimp only
    rw [show (0 : Int32) = nI 0 from rfl, v1]
    exact w1
theorem px_bitN {n k : Nat} (hn : n < 2 ^ 31) (hk : k < 31) : (nI n >>> (nI k &&& 31)) &&& 1 = nI (if n.testBit k = true then 1 else 0) := by
  rw [pz_bit hn hk]
  congr 1
  have := Nat.testBit_eq_decide_div_mod_eq (x := n) (i := k)
  rw [this]
  by_cases q : n / 2 ^ k % 2 = 1
  · rw [if_pos (decide_eq_true q), q]
  · rw [if_neg (by simp; omega)]
    omega
theorem px_w25 {w : Nat} {l : Nat → Nat → Nat} {P : Nat → List Nat} {nm : g_N} {U : List g_D} {F : List (Nat × Nat × Nat)} {T : List Nat} {sd : Nat} {rf : Nat → Int32} {ft : Int32 × Int32} {D : g_D} (hg : g_ld l P) (hk : g_dk l D) : ∀ (n fuel k : Nat) (im : List Nat) (σ : sw_St), RX σ w l P nm D U F T sd rf ft im → (∀ b ∈ im, b < 256) → k + n = l 0 1 → n < fuel → im.length + n + l 0 2 * (5 + l 0 0) < 94 → ∃ σ', L_X5_write_25 fuel σ w 38 (nI k) = some ((), σ') ∧ RX σ' w l P nm D U F T sd rf ft (g_is l D (l 0 2) 0 (g_ig (fun k => (D.1 2).testBit k) n k im) ++ [g_ck 227 (g_is l D (l 0 2) 0 (g_ig (fun k => (D.1 2).testBit k) n k im))])
  | 0, fuel + 1, k, im, σ, h, h256, hkk, hfu, hl => by
    have h1 := hg.2.1
    have h3 := hg.2.2.1
    obtain ⟨σ1, p1, p2⟩ := px_w54 hg hk (l 0 2) sw_fuel 0 im σ h h256 (by omega) (by have := sw_fuel_ge; omega) (by omega)
    refine ⟨σ1, ?_, p2⟩
    show S_X5_write_25 _ σ w 38 (nI k) = _
    unfold S_X5_write_25
    rw [if_pos (ld_O h.1.1), h.1.2.2.2.1, if_pos (nI_le (by omega) (by omega))]
    exact p1
  | n + 1, fuel + 1, k, im, σ, h, h256, hkk, hfu, hl => by
    have h1 := hg.2.1
    have hoL := hk.2.2.1
    have h2p : 2 ^ l 0 1 ≤ 2 ^ 10 := Nat.pow_le_pow_right (by omega) h1
    have hb1 : (if (D.1 2).testBit k = true then 1 else 0) < 256 := by split <;> omega
    obtain ⟨σ1, p1, p2⟩ := px_puA (v := if (D.1 2).testBit k = true then 1 else 0) (by omega) h (by omega)
    rw [Nat.mod_eq_of_lt hb1] at p2
    obtain ⟨σ2, q1, q2⟩ := px_w25 hg hk n fuel (k + 1) _ σ1 p2 (fun b hb => by
      rcases List.mem_append.mp hb with z | z
      · exact h256 b z
      · simp at z
        rw [z]
        exact hb1) (by omega) (by omega) (by simp; omega)
    refine ⟨σ2, ?_, q2⟩
    show S_X5_write_25 _ σ w 38 (nI k) = _
    unfold S_X5_write_25
    rw [if_pos (ld_O h.1.1), h.1.2.2.2.1, if_neg (nI_ge (by omega) (by omega)), if_pos (st_O (Or.inl rfl)), h.2.2.2.1.2.2.1, px_bitN (by omega) (by omega), p1]
    dsimp only [Option.bind]
    rw [nI_1]
    exact q1
theorem pm_w119 {l : Nat → Nat → Nat} {P : Nat → List Nat} {nm : g_N} {U : List g_D} {F : List (Nat × Nat × Nat)} {T : List Nat} {sd : Nat} {rf : Nat → Int32} {ft : Int32 × Int32} {D : g_D} {s : Nat} {c73 : sw_St → Int32 → Option (Int32 × sw_St)} (h8 : l 0 0 ≤ 8) (hs6 : s < 6) (hs : s < l 0 2) : ∀ (n fuel f : Nat) (im : List Nat) (τ : sw_St), RM τ l P nm D U F T sd rf ft im → f + n = l 0 0 → n < fuel → im.length + n < 94 → ∃ τ', L_X11_image_119 c73 fuel τ (nI s) (nI f) = c73 τ' (nI (s + 1)) ∧ RM τ' l P nm D U F T sd rf ft (g_if (D.2.1 s) n f im)
  | 0, fuel + 1, f, im, τ, h, hf, hfu, hl => by
    refine ⟨τ, ?_, h⟩
    show S_X11_image_119 c73 _ τ (nI s) (nI f) = _
    unfold S_X11_image_119 F_X11_fieldMany
    dsimp only [Option.bind]
    rw [h.1.1, if_pos (nI_le (by omega) (by omega)), nI_1]
  | n + 1, fuel + 1, f, im, τ, h, hf, hfu, hl => by
    have e := h.2.2.1.2.2.2.1 s (4 + f) hs (by omega)
    rw [show 0 + (12 + 12 * s + (4 + f)) = 16 + 12 * s + f by omega] at e
    obtain ⟨τ1, p1, p2⟩ := pm_wr (v := D.2.1 s (4 + f)) h (by omega)
    obtain ⟨τ2, q1, q2⟩ := pm_w119 (c73 := c73) h8 hs6 hs n fuel (f + 1) _ τ1 p2 (by omega) (by omega) (by simp; omega)
    refine ⟨τ2, ?_, q2⟩
    show S_X11_image_119 c73 _ τ (nI s) (nI f) = _
    unfold S_X11_image_119 F_X11_fieldMany
    dsimp only [Option.bind]
    rw [h.1.1, if_neg (nI_ge (by omega) (by omega)), pm_seenOf hs6 (by omega)]
    dsimp only
    rw [e, p1]
    dsimp only
    rw [nI_1]
    exact q1
theorem pm_w73 {l : Nat → Nat → Nat} {P : Nat → List Nat} {nm : g_N} {U : List g_D} {F : List (Nat × Nat × Nat)} {T : List Nat} {sd : Nat} {rf : Nat → Int32} {ft : Int32 × Int32} {D : g_D} (hg : g_ld l P) (hk : g_dk l D) : ∀ (n fuel s : Nat) (im : List Nat) (τ : sw_St), RM τ l P nm D U F T sd rf ft im → (∀ b ∈ im, b < 256) → s + n = l 0 2 → n < fuel → im.length + n * (5 + l 0 0) < 94 → ∃ τ', L_X11_image_73 fuel τ (nI s) = some (nI (g_is l D n s im ++ [g_ck 227 (g_is l D n s im)]).length, τ') ∧ RM τ' l P nm D U F T sd rf ft (g_is l D n s im ++ [g_ck 227 (g_is l D n s im)])
  | 0, fuel + 1, s, im, τ, h, h256, hs, hfu, hl => by
    have h3 := hg.2.2.1
    have eck : F_X11_checked τ 74 (nI im.length) = some (nI (g_ck 227 im), τ) := pm_ckl (o := 74) (N := 94) (L := im) (by decide +kernel) (by omega) (by decide +kernel) (by omega) h.2.2.2.2.2.2.2.2.2.1.2 h256 im.length sw_fuel 0 227 (by omega) (by have := sw_fuel_ge; omega) (by omega)
    obtain ⟨τ1, p1, p2⟩ := pm_wr (v := g_ck 227 im) h (by omega)
    refine ⟨τ1, ?_, p2⟩
    show S_X11_image_73 _ τ (nI s) = _
    unfold S_X11_image_73 F_X11_sheepMany
    dsimp only [Option.bind]
    rw [h.1.2.2.1, if_pos (nI_le (by omega) (by omega)), h.2.2.2.2.2.2.2.2.2.1.1, eck]
    dsimp only
    rw [p1]
    dsimp only
    rw [p2.2.2.2.2.2.2.2.2.2.1.1]
    rfl
  | n + 1, fuel + 1, s, im, τ, h, h256, hs, hfu, hl => by
    have h8 := hg.1
    have h3 := hg.2.2.1
    have hsl : s < l 0 2 := by omega
    obtain ⟨⟨r1, r2, r3, r4, r5, r6⟩, hf⟩ := hk.2.2.2.1 s hsl
    have hmul : (n + 1) * (5 + l 0 0) = n * (5 + l 0 0) + (5 + l 0 0) := by rw [Nat.add_mul]; omega
    obtain ⟨τ1, p1, p2⟩ := pm_wr (v := D.2.1 s 0) h (by omega)
    obtain ⟨τ2, q1, q2⟩ := pm_wrTwo (v := D.2.1 s 1) (by omega) p2 (by simp; omega)
    obtain ⟨τ3, t1, t2⟩ := pm_wr (v := D.2.1 s 2) q2 (by simp; omega)
    obtain ⟨τ4, u1, u2⟩ := pm_wr (v := D.2.1 s 3) t2 (by simp; omega)
    obtain ⟨τ5, v1, v2⟩ := pm_w119 (c73 := fun σ x1 => L_X11_image_73 fuel σ x1) h8 (by omega) hsl (l 0 0) sw_fuel 0 _ τ4 u2 (by omega) (by have := sw_fuel_ge; omega) (by simp; omega)
    have h256' : ∀ b ∈ g_if (D.2.1 s) (l 0 0) 0 (im ++ [D.2.1 s 0] ++ [D.2.1 s 1 / 256, D.2.1 s 1 % 256] ++ [D.2.1 s 2] ++ [D.2.1 s 3]), b < 256 := g_if_mem _ _ _ (fun b hb => by
      simp only [List.mem_append, List.mem_cons, List.not_mem_nil, or_false] at hb
      rcases hb with (((z | z) | z | z) | z) | z
      · exact h256 b z
      all_goals omega) (fun f h1 h2 => by have := r6 f (by omega); omega)
    obtain ⟨τ6, w1, w2⟩ := pm_w73 hg hk n fuel (s + 1) _ τ5 v2 h256' (by omega) (by omega) (by rw [g_if_len]; simp; omega)
    refine ⟨τ6, ?_, w2⟩
    have y1 : τ.1 37 (12 + 12 * s) = nI (D.2.1 s 0) := by have := h.2.2.1.2.2.2.1 s 0 hsl (by omega); rwa [show 0 + (12 + 12 * s + 0) = 12 + 12 * s by omega] at this
    have y2 : τ1.1 37 (13 + 12 * s) = nI (D.2.1 s 1) := by have := p2.2.2.1.2.2.2.1 s 1 hsl (by omega); rwa [show 0 + (12 + 12 * s + 1) = 13 + 12 * s by omega] at this
    have y3 : τ2.1 37 (14 + 12 * s) = nI (D.2.1 s 2) := by have := q2.2.2.1.2.2.2.1 s 2 hsl (by omega); rwa [show 0 + (12 + 12 * s + 2) = 14 + 12 * s by omega] at this
    have y4 : τ3.1 37 (15 + 12 * s) = nI (D.2.1 s 3) := by have := t2.2.2.1.2.2.2.1 s 3 hsl (by omega); rwa [show 0 + (12 + 12 * s + 3) = 15 + 12 * s by omega] at this
    show S_X11_image_73 _ τ (nI s) = _
    unfold S_X11_image_73 F_X11_sheepMany
    dsimp only [Option.bind]
    rw [h.1.2.2.1, if_neg (nI_ge hsl (by omega)), pm_fieldOf (by omega)]
    dsimp only
    rw [y1, p1]
    dsimp only
    rw [pm_woolOf (by omega)]
    dsimp only
    rw [y2, q1]
    dsimp only
    rw [pm_crimpOf (by omega)]
    dsimp only
    rw [y3, t1]
    dsimp only
    rw [pm_ledOf (by omega)]
    dsimp only
    rw [y4, u1]
    dsimp only
    rw [show (0 : Int32) = nI 0 from rfl, v1]
    exact w1
theorem pm_w45 {l : Nat → Nat → Nat} {P : Nat → List Nat} {nm : g_N} {U : List g_D} {F : List (Nat × Nat × Nat)} {T : List Nat} {sd : Nat} {rf : Nat → Int32} {ft : Int32 × Int32} {D : g_D} (hg : g_ld l P) (hk : g_dk l D) : ∀ (n fuel k : Nat) (im : List Nat) (τ : sw_St), RM τ l P nm D U F T sd rf ft im → (∀ b ∈ im, b < 256) → k + n = l 0 1 → n < fuel → im.length + n + l 0 2 * (5 + l 0 0) < 94 → ∃ τ', L_X11_image_45 fuel τ (nI k) = some (nI (g_is l D (l 0 2) 0 (g_ig (fun k => (D.1 2).testBit k) n k im) ++ [g_ck 227 (g_is l D (l 0 2) 0 (g_ig (fun k => (D.1 2).testBit k) n k im))]).length, τ') ∧ RM τ' l P nm D U F T sd rf ft (g_is l D (l 0 2) 0 (g_ig (fun k => (D.1 2).testBit k) n k im) ++ [g_ck 227 (g_is l D (l 0 2) 0 (g_ig (fun k => (D.1 2).testBit k) n k im))])
  | 0, fuel + 1, k, im, τ, h, h256, hkk, hfu, hl => by
    have h1 := hg.2.1
    have h3 := hg.2.2.1
    obtain ⟨τ1, p1, p2⟩ := pm_w73 hg hk (l 0 2) sw_fuel 0 im τ h h256 (by omega) (by have := sw_fuel_ge; omega) (by omega)
    refine ⟨τ1, ?_, p2⟩
    show S_X11_image_45 _ τ (nI k) = _
    unfold S_X11_image_45 F_X11_gapMany
    dsimp only [Option.bind]
    rw [h.1.2.1, if_pos (nI_le (by omega) (by omega))]
    exact p1
  | n + 1, fuel + 1, k, im, τ, h, h256, hkk, hfu, hl => by
    have h1 := hg.2.1
    have hb1 : (if (D.1 2).testBit k = true then 1 else 0) < 256 := by split <;> omega
    obtain ⟨τ1, p1, p2⟩ := pm_wr (v := if (D.1 2).testBit k = true then 1 else 0) h (by omega)
    obtain ⟨τ2, q1, q2⟩ := pm_w45 hg hk n fuel (k + 1) _ τ1 p2 (fun b hb => by
      rcases List.mem_append.mp hb with z | z
      · exact h256 b z
      · simp at z
        rw [z]
        exact hb1) (by omega) (by omega) (by simp; omega)
    refine ⟨τ2, ?_, q2⟩
    show S_X11_image_45 _ τ (nI k) = _
    unfold S_X11_image_45 F_X11_gapMany
    dsimp only [Option.bind]
    rw [h.1.2.1, if_neg (nI_ge (by omega) (by omega)), pm_ad, if_pos (pz_inb (by omega) (by omega)), nI_clamp (by omega), h.2.2.1.op k (by omega), p1]
    dsimp only
    rw [nI_1]
    exact q1
theorem op_34 : ll_34 RR := by
  intro x m hR
  obtain ⟨w, l, P, nm, D, U, F, T, sd, rf, ft, im, hG, hX, hM⟩ := hR
  have hR : RR x m := ⟨w, l, P, nm, D, U, F, T, sd, rf, ft, im, hG, hX, hM⟩
  have h1 := hG.1.2.1
  have h3 := hG.1.2.2.1
  have h8 := hG.1.1
  have hd := hG.2.2.1.1
  have hp := hG.2.2.1.2.1
  have hmul : l 0 2 * (5 + l 0 0) ≤ 6 * 13 := Nat.mul_le_mul (by omega) (by omega)
  have hX0 := hX.img0
  obtain ⟨σ1, p1, p2⟩ := px_puB (v := D.1 0) (by omega) hX0 (by simp)
  obtain ⟨σ2, q1, q2⟩ := px_puC (v := D.1 1) (by omega) p2 (by simp)
  have e0 : [] ++ [D.1 0 / 256 % 256, D.1 0 % 256] ++ [D.1 1 / 65536 % 256, D.1 1 / 256 % 256, D.1 1 % 256] = g_i0 D := by
    unfold g_i0
    rw [Nat.mod_eq_of_lt (show D.1 0 / 256 < 256 by omega), Nat.mod_eq_of_lt (show D.1 1 / 65536 < 256 by omega), show D.1 1 % 65536 / 256 = D.1 1 / 256 % 256 by omega, show D.1 1 % 65536 % 256 = D.1 1 % 256 by omega]
    rfl
  rw [e0] at q2
  have h256 : ∀ b ∈ g_i0 D, b < 256 := fun b hb => by
    unfold g_i0 at hb
    simp at hb
    omega
  have hl5 : (g_i0 D).length = 5 := rfl
  obtain ⟨σ3, r1, r2⟩ := px_w25 hG.1 hG.2.2.1 (l 0 1) sw_fuel 0 (g_i0 D) σ2 q2 h256 (by omega) (by have := sw_fuel_ge; omega) (by rw [hl5]; omega)
  have hM0 := hM.img0
  obtain ⟨τ1, s1, s2⟩ := pm_wrTwo (v := D.1 0) (by omega) hM0 (by simp)
  obtain ⟨τ2, t1, t2⟩ := pm_wr (v := D.1 1 / 65536) s2 (by simp)
  obtain ⟨τ3, u1, u2⟩ := pm_wrTwo (v := D.1 1 % 65536) (by omega) t2 (by simp)
  obtain ⟨τ4, v1, v2⟩ := pm_w45 hG.1 hG.2.2.1 (l 0 1) sw_fuel 0 (g_i0 D) τ3 u2 h256 (by omega) (by have := sw_fuel_ge; omega) (by rw [hl5]; omega)
  refine ⟨nI (g_im l D).length, σ3, τ4, ?_, ?_, w, l, P, nm, D, U, F, T, sd, rf, ft, g_im l D, ⟨hG.1, hG.2.1, hG.2.2.1, hG.2.2.2.1, hG.2.2.2.2.1, hG.2.2.2.2.2.1, hG.2.2.2.2.2.2.1, g_im_mem hG.1 hG.2.2.1⟩, r2, v2⟩
  · have hq : (38 : Nat) = 38 ∨ 38 = 46 := Or.inl rfl
    unfold F_X10_image F_X5_write
    rw [hX.1.2.1]
    dsimp only [Option.bind]
    rw [if_pos (st_O hq), hX0.2.2.2.1.1, p1]
    dsimp only
    rw [if_pos (st_O hq), p2.2.2.2.1.2.1, q1]
    dsimp only
    rw [show (0 : Int32) = nI 0 from rfl, r1]
    dsimp only
    rw [r2.2.2.2.2.2.2.2.2.2.2.1.1]
    rfl
  · unfold F_X11_image
    rw [hM.2.2.1.1, s1]
    dsimp only [Option.bind]
    rw [show τ1.1 37 1 = nI (D.1 1) from s2.2.2.1.2.1, show nI (D.1 1) / (65536 : Int32) = nI (D.1 1 / 65536) from pk_div (d := 65536) (by omega) (by omega) (by omega), t1]
    dsimp only
    rw [show τ2.1 37 1 = nI (D.1 1) from t2.2.2.1.2.1, show nI (D.1 1) - nI (D.1 1) / (65536 : Int32) * 65536 = nI (D.1 1 % 65536) from pk_rem (d := 65536) (by omega) (by omega) (by omega), u1]
    dsimp only
    rw [show (0 : Int32) = nI 0 from rfl, v1]
    rfl

/-! Images are written. -/
theorem RX.img {σ : sw_St} {w : Nat} {l : Nat → Nat → Nat} {P : Nat → List Nat} {nm : g_N} {D : g_D} {U : List g_D} {F : List (Nat × Nat × Nat)} {T : List Nat} {sd : Nat} {rf : Nat → Int32} {ft : Int32 × Int32} {im : List Nat} (h : RX σ w l P nm D U F T sd rf ft im) (b : Nat) : RX (sw_uI (sw_uI σ 225 im.length (sB b)) 224 1 (nI (im.length + 1))) w l P nm D U F T sd rf ft (im ++ [b]) := by
  have ms : pz_sm [224, 225] σ (sw_uI (sw_uI σ 225 im.length (sB b)) 224 1 (nI (im.length + 1))) := ((pz_sm.refl _ σ).I (by decide) _ _).I (by decide) _ _
  refine h.gen ms (by decide) rfl (h.2.2.2.1.mv (fun i hi => (ms _ (by simp; omega)).1)) (h.2.2.2.2.1.mv ms (by decide)) (h.2.2.2.2.2.1.mv (ms.r (by decide) 4) (ms 55 (by decide)).1) (h.2.2.2.2.2.2.1.mv (ms.r (by decide) 1) (ms 1 (by decide)).1) (by rw [ms.r (by decide)]; exact h.2.2.2.2.2.2.2.1) (fun i hi => by rw [ms.r (by decide)]; exact h.2.2.2.2.2.2.2.2.1 i hi) (by rw [ms.r (by decide), ms.r (by decide)]; exact h.2.2.2.2.2.2.2.2.2.1) ⟨by rw [pz_Ie rfl rfl]; simp, fun i hi => ?_⟩ (by rw [ms.r (by decide)]; exact h.2.2.2.2.2.2.2.2.2.2.2.1) (h.2.2.2.2.2.2.2.2.2.2.2.2.mv (ms 54 (by decide)).2.2)
  rw [pz_Io (by decide)]
  simp at hi
  by_cases e : i = im.length
  · rw [e, pz_Ie rfl rfl, List.getD_eq_getElem?_getD, List.getElem?_append_right (Nat.le_refl _)]
    simp
  · rw [pz_Ik e, h.2.2.2.2.2.2.2.2.2.2.1.2 i (by omega), List.getD_eq_getElem?_getD, List.getD_eq_getElem?_getD, List.getElem?_append_left (by omega)]
theorem RX.img0 {σ : sw_St} {w : Nat} {l : Nat → Nat → Nat} {P : Nat → List Nat} {nm : g_N} {D : g_D} {U : List g_D} {F : List (Nat × Nat × Nat)} {T : List Nat} {sd : Nat} {rf : Nat → Int32} {ft : Int32 × Int32} {im : List Nat} (h : RX σ w l P nm D U F T sd rf ft im) : RX (sw_uI σ 224 1 0) w l P nm D U F T sd rf ft [] := by
  have ms : pz_sm [224] σ (sw_uI σ 224 1 0) := (pz_sm.refl _ σ).I (by decide) _ _
  exact h.gen ms (by decide) rfl (h.2.2.2.1.mv (fun i hi => (ms _ (by simp; omega)).1)) (h.2.2.2.2.1.mv ms (by decide)) (h.2.2.2.2.2.1.mv (ms.r (by decide) 4) (ms 55 (by decide)).1) (h.2.2.2.2.2.2.1.mv (ms.r (by decide) 1) (ms 1 (by decide)).1) (by rw [ms.r (by decide)]; exact h.2.2.2.2.2.2.2.1) (fun i hi => by rw [ms.r (by decide)]; exact h.2.2.2.2.2.2.2.2.1 i hi) (by rw [ms.r (by decide), ms.r (by decide)]; exact h.2.2.2.2.2.2.2.2.2.1) ⟨pz_Ie rfl rfl, fun i hi => by simp at hi⟩ (by rw [ms.r (by decide)]; exact h.2.2.2.2.2.2.2.2.2.2.2.1) (h.2.2.2.2.2.2.2.2.2.2.2.2.mv (ms 54 (by decide)).2.2)
theorem RM.img {τ : sw_St} {l : Nat → Nat → Nat} {P : Nat → List Nat} {nm : g_N} {D : g_D} {U : List g_D} {F : List (Nat × Nat × Nat)} {T : List Nat} {sd : Nat} {rf : Nat → Int32} {ft : Int32 × Int32} {im : List Nat} (h : RM τ l P nm D U F T sd rf ft im) (b : Nat) : RM (sw_uI (sw_uI τ 74 im.length (nI b)) 0 105 (nI (im.length + 1))) l P nm D U F T sd rf ft (im ++ [b]) := by
  have ms : pm_sm [74] [105] τ (sw_uI (sw_uI τ 74 im.length (nI b)) 0 105 (nI (im.length + 1))) := ((pm_sm.refl _ _ τ).I (by decide) (by decide) _ _).K (by decide) _
  have r : ∀ o, o ≠ 0 → o ∉ [74] → (sw_uI (sw_uI τ 74 im.length (nI b)) 0 105 (nI (im.length + 1))).1 o = τ.1 o := fun o h0 ho => (ms.1 o h0 ho).1
  have rk : ∀ k, k ∉ [105] → (sw_uI (sw_uI τ 74 im.length (nI b)) 0 105 (nI (im.length + 1))).1 0 k = τ.1 0 k := fun k hk => ms.2.1 k hk
  refine h.gen (h.1.mv ms (by unfold pm_LS; decide)) (ms.1 29 (by decide) (by decide)).2 (h.2.2.1.mvr (r 37 (by decide) (by decide))) (h.2.2.2.1.mv (rk 68 (by decide)) (rk 67 (by decide)) (r 46 (by decide) (by decide))) (h.2.2.2.2.1.mv (rk 63 (by decide)) (r 44 (by decide) (by decide))) (h.2.2.2.2.2.1.mv (rk 1 (by decide)) (r 1 (by decide) (by decide))) (by rw [ms.2.2]; exact h.2.2.2.2.2.2.1) (fun j hj => by rw [r 2 (by decide) (by decide)]; exact h.2.2.2.2.2.2.2.1 j hj) (by rw [rk 7 (by decide), rk 8 (by decide)]; exact h.2.2.2.2.2.2.2.2.1) ⟨by rw [pz_Ie rfl rfl]; simp, fun i hi => ?_⟩ (by rw [rk 52 (by decide), rk 58 (by decide)]; exact h.2.2.2.2.2.2.2.2.2.2.1) (h.2.2.2.2.2.2.2.2.2.2.2.mv ms (by decide))
  rw [pz_Io (by decide)]
  simp at hi
  by_cases e : i = im.length
  · rw [e, pz_Ie rfl rfl, List.getD_eq_getElem?_getD, List.getElem?_append_right (Nat.le_refl _)]
    simp
  · rw [pz_Ik e, h.2.2.2.2.2.2.2.2.2.1.2 i (by omega), List.getD_eq_getElem?_getD, List.getD_eq_getElem?_getD, List.getElem?_append_left (by omega)]
theorem RM.img0 {τ : sw_St} {l : Nat → Nat → Nat} {P : Nat → List Nat} {nm : g_N} {D : g_D} {U : List g_D} {F : List (Nat × Nat × Nat)} {T : List Nat} {sd : Nat} {rf : Nat → Int32} {ft : Int32 × Int32} {im : List Nat} (h : RM τ l P nm D U F T sd rf ft im) : RM (sw_uI τ 0 105 0) l P nm D U F T sd rf ft [] := by
  have ms : pm_sm [] [105] τ (sw_uI τ 0 105 0) := (pm_sm.refl _ _ τ).K (by decide) _
  have r : ∀ o, o ≠ 0 → (sw_uI τ 0 105 0).1 o = τ.1 o := fun o h0 => (ms.1 o h0 (by simp)).1
  have rk : ∀ k, k ∉ [105] → (sw_uI τ 0 105 0).1 0 k = τ.1 0 k := fun k hk => ms.2.1 k hk
  exact h.gen (h.1.mv ms (by unfold pm_LS; decide)) (ms.1 29 (by decide) (by decide)).2 (h.2.2.1.mvr (r 37 (by decide))) (h.2.2.2.1.mv (rk 68 (by decide)) (rk 67 (by decide)) (r 46 (by decide))) (h.2.2.2.2.1.mv (rk 63 (by decide)) (r 44 (by decide))) (h.2.2.2.2.2.1.mv (rk 1 (by decide)) (r 1 (by decide))) (by rw [ms.2.2]; exact h.2.2.2.2.2.2.1) (fun j hj => by rw [r 2 (by decide)]; exact h.2.2.2.2.2.2.2.1 j hj) (by rw [rk 7 (by decide), rk 8 (by decide)]; exact h.2.2.2.2.2.2.2.2.1) ⟨pz_Ie rfl rfl, fun i hi => by simp at hi⟩ (by rw [rk 52 (by decide), rk 58 (by decide)]; exact h.2.2.2.2.2.2.2.2.2.2.1) (h.2.2.2.2.2.2.2.2.2.2.2.mv ms (by decide))
theorem px_pu {σ : sw_St} {w : Nat} {l : Nat → Nat → Nat} {P : Nat → List Nat} {nm : g_N} {D : g_D} {U : List g_D} {F : List (Nat × Nat × Nat)} {T : List Nat} {sd : Nat} {rf : Nat → Int32} {ft : Int32 × Int32} {im : List Nat} {fuel : Nat} {v x3 : Int32} (h : RX σ w l P nm D U F T sd rf ft im) (hl : im.length < 94) (h2 : ¬ x3 < 0) : ∃ σ', L_X5_put_7 (fuel + 1) σ v x3 = L_X5_put_7 fuel σ' v (x3 + (-8)) ∧ RX σ' w l P nm D U F T sd rf ft (im ++ [g_b (v >>> (x3 &&& 31))]) := by
  refine ⟨_, ?_, h.img _⟩
  show S_X5_put_7 _ σ v x3 = _
  unfold S_X5_put_7
  rw [if_neg h2, h.2.2.2.2.2.2.2.2.2.2.1.1, if_neg (show ¬ (94 : Int32) ≤ nI im.length from nI_ge (b := 94) hl (by omega)), if_pos (pz_inb hl (by omega)), nI_clamp (by omega), nI_1, g_b_sB]
theorem px_puE {σ : sw_St} {fuel : Nat} {v : Int32} : L_X5_put_7 (fuel + 1) σ v (0 + (-8)) = some ((), σ) := by
  show S_X5_put_7 _ σ v (0 + (-8)) = _
  unfold S_X5_put_7 S_X5_put_52
  rw [if_pos (by decide)]
theorem g_b_sh {v : Nat} (hv : v < 2 ^ 31) (s : Int32) (k : Nat) (hs : (s.toBitVec.smod 32).toNat = k) : g_b (nI v >>> s) = v / 2 ^ k % 256 := by
  unfold g_b
  rw [pk_shrN hv s k hs, show (255 : Int32) = nI (2 ^ 8 - 1) from rfl, fa_mask, nI_clamp (by omega)]
theorem px_puA {σ : sw_St} {w : Nat} {l : Nat → Nat → Nat} {P : Nat → List Nat} {nm : g_N} {D : g_D} {U : List g_D} {F : List (Nat × Nat × Nat)} {T : List Nat} {sd : Nat} {rf : Nat → Int32} {ft : Int32 × Int32} {im : List Nat} {v : Nat} (hv : v < 2 ^ 31) (h : RX σ w l P nm D U F T sd rf ft im) (hl : im.length < 94) : ∃ σ', F_X5_put σ (nI v) 1 = some ((), σ') ∧ RX σ' w l P nm D U F T sd rf ft (im ++ [v % 256]) := by
  obtain ⟨f, hf⟩ : ∃ f, sw_fuel = f + 2 := ⟨sw_fuel - 2, by have := sw_fuel_ge; omega⟩
  obtain ⟨σ1, p1, p2⟩ := px_pu (fuel := f + 1) (v := nI v) (x3 := 0) h hl (by decide)
  rw [show (0 &&& 31 : Int32) = 0 from by decide, g_b_sh hv 0 0 (by decide), Nat.pow_zero, Nat.div_one] at p2
  refine ⟨σ1, ?_, p2⟩
  unfold F_X5_put
  rw [hf, show (8 * (1 - 1) : Int32) = 0 from by decide, p1, px_puE]
theorem px_puB {σ : sw_St} {w : Nat} {l : Nat → Nat → Nat} {P : Nat → List Nat} {nm : g_N} {D : g_D} {U : List g_D} {F : List (Nat × Nat × Nat)} {T : List Nat} {sd : Nat} {rf : Nat → Int32} {ft : Int32 × Int32} {im : List Nat} {v : Nat} (hv : v < 2 ^ 31) (h : RX σ w l P nm D U F T sd rf ft im) (hl : im.length + 1 < 94) : ∃ σ', F_X5_put σ (nI v) 2 = some ((), σ') ∧ RX σ' w l P nm D U F T sd rf ft (im ++ [v / 256 % 256, v % 256]) := by
  obtain ⟨f, hf⟩ : ∃ f, sw_fuel = f + 3 := ⟨sw_fuel - 3, by have := sw_fuel_ge; omega⟩
  obtain ⟨σ1, p1, p2⟩ := px_pu (fuel := f + 2) (v := nI v) (x3 := 8) h (by omega) (by decide)
  obtain ⟨σ2, q1, q2⟩ := px_pu (fuel := f + 1) (v := nI v) (x3 := 0) p2 (by simp; omega) (by decide)
  rw [show (8 &&& 31 : Int32) = 8 from by decide, show (0 &&& 31 : Int32) = 0 from by decide, g_b_sh hv 8 8 (by decide), g_b_sh hv 0 0 (by decide), Nat.pow_zero, Nat.div_one, List.append_assoc] at q2
  refine ⟨σ2, ?_, q2⟩
  unfold F_X5_put
  rw [hf, show (8 * (2 - 1) : Int32) = 8 from by decide, p1, show (8 : Int32) + (-8) = 0 from by decide, q1, px_puE]
theorem px_puC {σ : sw_St} {w : Nat} {l : Nat → Nat → Nat} {P : Nat → List Nat} {nm : g_N} {D : g_D} {U : List g_D} {F : List (Nat × Nat × Nat)} {T : List Nat} {sd : Nat} {rf : Nat → Int32} {ft : Int32 × Int32} {im : List Nat} {v : Nat} (hv : v < 2 ^ 31) (h : RX σ w l P nm D U F T sd rf ft im) (hl : im.length + 2 < 94) : ∃ σ', F_X5_put σ (nI v) 3 = some ((), σ') ∧ RX σ' w l P nm D U F T sd rf ft (im ++ [v / 65536 % 256, v / 256 % 256, v % 256]) := by
  obtain ⟨f, hf⟩ : ∃ f, sw_fuel = f + 4 := ⟨sw_fuel - 4, by have := sw_fuel_ge; omega⟩
  obtain ⟨σ0, o1, o2⟩ := px_pu (fuel := f + 3) (v := nI v) (x3 := 16) h (by omega) (by decide)
  obtain ⟨σ1, p1, p2⟩ := px_pu (fuel := f + 2) (v := nI v) (x3 := 8) o2 (by simp; omega) (by decide)
  obtain ⟨σ2, q1, q2⟩ := px_pu (fuel := f + 1) (v := nI v) (x3 := 0) p2 (by simp; omega) (by decide)
  rw [show (16 &&& 31 : Int32) = 16 from by decide, show (8 &&& 31 : Int32) = 8 from by decide, show (0 &&& 31 : Int32) = 0 from by decide, g_b_sh hv 16 16 (by decide), g_b_sh hv 8 8 (by decide), g_b_sh hv 0 0 (by decide), Nat.pow_zero, Nat.div_one, List.append_assoc, List.append_assoc] at q2
  refine ⟨σ2, ?_, q2⟩
  unfold F_X5_put
  rw [hf, show (8 * (3 - 1) : Int32) = 16 from by decide, o1, show (16 : Int32) + (-8) = 8 from by decide, p1, show (8 : Int32) + (-8) = 0 from by decide, q1, px_puE]
theorem pm_wr {τ : sw_St} {l : Nat → Nat → Nat} {P : Nat → List Nat} {nm : g_N} {D : g_D} {U : List g_D} {F : List (Nat × Nat × Nat)} {T : List Nat} {sd : Nat} {rf : Nat → Int32} {ft : Int32 × Int32} {im : List Nat} {v : Nat} (h : RM τ l P nm D U F T sd rf ft im) (hl : im.length < 94) : ∃ τ', F_X11_writes τ (nI v) = some ((), τ') ∧ RM τ' l P nm D U F T sd rf ft (im ++ [v]) := by
  refine ⟨_, ?_, h.img v⟩
  unfold F_X11_writes
  rw [h.2.2.2.2.2.2.2.2.2.1.1, if_pos (pz_inb hl (by omega)), nI_clamp (by omega), nI_1]
theorem pm_wrTwo {τ : sw_St} {l : Nat → Nat → Nat} {P : Nat → List Nat} {nm : g_N} {D : g_D} {U : List g_D} {F : List (Nat × Nat × Nat)} {T : List Nat} {sd : Nat} {rf : Nat → Int32} {ft : Int32 × Int32} {im : List Nat} {v : Nat} (hv : v < 2 ^ 31) (h : RM τ l P nm D U F T sd rf ft im) (hl : im.length + 1 < 94) : ∃ τ', F_X11_writesTwo τ (nI v) = some ((), τ') ∧ RM τ' l P nm D U F T sd rf ft (im ++ [v / 256, v % 256]) := by
  obtain ⟨τ1, p1, p2⟩ := pm_wr (v := v / 256) h (by omega)
  obtain ⟨τ2, q1, q2⟩ := pm_wr (v := v % 256) p2 (by simp; omega)
  rw [List.append_assoc] at q2
  refine ⟨τ2, ?_, q2⟩
  unfold F_X11_writesTwo
  rw [show (256 : Int32) = nI 256 from rfl, pk_rem hv (by omega) (by omega), pk_div hv (by omega) (by omega), p1]
  dsimp only [Option.bind]
  rw [q1]
/-! What an image is. -/
def g_ig (op : Nat → Bool) : Nat → Nat → List Nat → List Nat
  | 0, _, a => a
  | n + 1, k, a => g_ig op n (k + 1) (a ++ [if op k = true then 1 else 0])
def g_if (row : Nat → Nat) : Nat → Nat → List Nat → List Nat
  | 0, _, a => a
  | n + 1, f, a => g_if row n (f + 1) (a ++ [row (4 + f)])
def g_is (l : Nat → Nat → Nat) (D : g_D) : Nat → Nat → List Nat → List Nat
  | 0, _, a => a
  | n + 1, s, a => g_is l D n (s + 1) (g_if (D.2.1 s) (l 0 0) 0 (a ++ [D.2.1 s 0] ++ [D.2.1 s 1 / 256, D.2.1 s 1 % 256] ++ [D.2.1 s 2] ++ [D.2.1 s 3]))
def g_ck (c : Nat) : List Nat → Nat
  | [] => c
  | b :: L => g_ck ((3 * c + b) % 251) L
def g_i0 (D : g_D) : List Nat := [D.1 0 / 256, D.1 0 % 256] ++ [D.1 1 / 65536] ++ [D.1 1 % 65536 / 256, D.1 1 % 65536 % 256]
def g_ib (l : Nat → Nat → Nat) (D : g_D) : List Nat := g_is l D (l 0 2) 0 (g_ig (fun k => (D.1 2).testBit k) (l 0 1) 0 (g_i0 D))
def g_im (l : Nat → Nat → Nat) (D : g_D) : List Nat := g_ib l D ++ [g_ck 227 (g_ib l D)]
theorem g_ig_len (op : Nat → Bool) : ∀ n k a, (g_ig op n k a).length = a.length + n
  | 0, _, _ => rfl
  | n + 1, k, a => by
    unfold g_ig
    rw [g_ig_len op n]
    simp
    omega
theorem g_if_len (row : Nat → Nat) : ∀ n k a, (g_if row n k a).length = a.length + n
  | 0, _, _ => rfl
  | n + 1, k, a => by
    unfold g_if
    rw [g_if_len row n]
    simp
    omega
theorem g_is_len (l : Nat → Nat → Nat) (D : g_D) : ∀ n s a, (g_is l D n s a).length = a.length + n * (5 + l 0 0)
  | 0, _, _ => by simp [g_is]
  | n + 1, s, a => by
    unfold g_is
    rw [g_is_len l D n, g_if_len]
    simp
    rw [Nat.add_mul]
    omega
theorem g_ib_len (l : Nat → Nat → Nat) (D : g_D) : (g_ib l D).length = 5 + l 0 1 + l 0 2 * (5 + l 0 0) := by
  unfold g_ib
  rw [g_is_len, g_ig_len]
  rfl
theorem g_ck_lt : ∀ (L : List Nat) (c : Nat), c < 251 → g_ck c L < 251
  | [], _, h => h
  | b :: L, c, h => g_ck_lt L _ (Nat.mod_lt _ (by omega))
theorem g_ig_mem {op : Nat → Bool} : ∀ n k a, (∀ b ∈ a, b < 256) → ∀ b ∈ g_ig op n k a, b < 256
  | 0, _, _, h => h
  | n + 1, k, a, h => g_ig_mem n (k + 1) _ (fun b hb => by
    rcases List.mem_append.mp hb with z | z
    · exact h b z
    · simp at z
      rw [z]
      split <;> omega)
theorem g_if_mem {row : Nat → Nat} : ∀ n k a, (∀ b ∈ a, b < 256) → (∀ f, k ≤ f → f < k + n → row (4 + f) < 256) → ∀ b ∈ g_if row n k a, b < 256
  | 0, _, _, h, _ => h
  | n + 1, k, a, h, hr => g_if_mem n (k + 1) _ (fun b hb => by
    rcases List.mem_append.mp hb with z | z
    · exact h b z
    · simp at z
      rw [z]
      exact hr k (by omega) (by omega)) (fun f h1 h2 => hr f (by omega) (by omega))
theorem g_is_mem {l : Nat → Nat → Nat} {D : g_D} (h8 : l 0 0 ≤ 8) : ∀ n s a, (∀ b ∈ a, b < 256) → (∀ t, s ≤ t → t < s + n → g_rk (l 3 (2 * t + 1)) (D.2.1 t)) → ∀ b ∈ g_is l D n s a, b < 256
  | 0, _, _, h, _ => h
  | n + 1, s, a, h, hr => by
    obtain ⟨r1, r2, r3, r4, r5, r6⟩ := hr s (by omega) (by omega)
    refine g_is_mem h8 n (s + 1) _ (g_if_mem _ _ _ (fun b hb => ?_) (fun f h1 h2 => by have := r6 f (by omega); omega)) (fun t h1 h2 => hr t (by omega) (by omega))
    simp only [List.mem_append, List.mem_cons, List.not_mem_nil, or_false] at hb
    rcases hb with (((z | z) | z | z) | z) | z
    · exact h b z
    all_goals omega
theorem g_im_mem {l : Nat → Nat → Nat} {P : Nat → List Nat} {D : g_D} (hg : g_ld l P) (hk : g_dk l D) : (g_im l D).length ≤ 94 ∧ ∀ b ∈ g_im l D, b < 256 := by
  have h1 := hg.1
  have h2 := hg.2.1
  have h3 := hg.2.2.1
  have hd := hk.1
  have hp := hk.2.1
  refine ⟨?_, fun b hb => ?_⟩
  · unfold g_im
    rw [List.length_append, g_ib_len]
    have : l 0 2 * (5 + l 0 0) ≤ 6 * 13 := Nat.mul_le_mul (by omega) (by omega)
    simp
    omega
  · rcases List.mem_append.mp hb with z | z
    · refine g_is_mem h1 _ _ _ (g_ig_mem _ _ _ (fun b hb => ?_)) (fun t _ ht => (hk.2.2.2.1 t (by omega)).1) b z
      unfold g_i0 at hb
      simp at hb
      omega
    · simp at z
      have := g_ck_lt (g_ib l D) 227 (by omega)
      omega

/-! The day and the sheep that tell most. -/
def g_tu (b : Option (Nat × Nat × Nat)) (d t v : Nat) : Option (Nat × Nat × Nat) := match b with
  | none => some (d, t, v)
  | some y => if v < y.2.2 then some (d, t, v) else some y
def g_ti (lf : Nat → Nat → Nat) (d : Nat) : Nat → Nat → Option (Nat × Nat × Nat) → Option (Nat × Nat × Nat)
  | 0, _, b => b
  | n + 1, t, b => g_ti lf d n (t + 1) (g_tu b d t (lf d t))
def g_to (lf : Nat → Nat → Nat) (S : Nat) : Nat → Nat → Option (Nat × Nat × Nat) → Option (Nat × Nat × Nat)
  | 0, _, b => b
  | n + 1, d, b => g_to lf S n (d + 1) (g_ti lf d S 0 b)
def g_bx (b : Option (Nat × Nat × Nat)) (j : Nat) : Int32 := match b with
  | none => -1
  | some y => nI (if j = 0 then y.1 else if j = 1 then y.2.1 else y.2.2)
def g_bm (b : Option (Nat × Nat × Nat)) : Int32 := match b with
  | none => 0
  | some y => nI y.2.2
def g_bk (b : Option (Nat × Nat × Nat)) : Prop := ∀ y, b = some y → y.1 ≤ 30 ∧ y.2.1 ≤ 6 ∧ y.2.2 ≤ 10
theorem g_tu_k {b : Option (Nat × Nat × Nat)} {d t v : Nat} (h : g_bk b) (hd : d ≤ 30) (ht : t ≤ 6) (hv : v ≤ 10) : g_bk (g_tu b d t v) := by
  intro y hy
  cases b with
  | none =>
    cases hy
    exact ⟨hd, ht, hv⟩
  | some z =>
    unfold g_tu at hy
    dsimp only at hy
    split at hy
    · cases hy
      exact ⟨hd, ht, hv⟩
    · rw [← Option.some.inj hy]
      exact h _ rfl
/-- how many of a set are alike, at the most -/
def g_al (v : Nat → Nat) (set a : Nat) : Nat := g_pc (g_bits (fun b => decide (v b = v a)) 10 &&& set)
def g_mx (v : Nat → Nat) (set : Nat) : Nat → Nat → Nat → Nat
  | 0, _, x => x
  | n + 1, a, x => g_mx v set n (a + 1) (if set.testBit a = true then max x (g_al v set a) else x)
theorem g_mx_le {v : Nat → Nat} {set : Nat} (hs : set < 1024) : ∀ n a x, x ≤ 10 → g_mx v set n a x ≤ 10
  | 0, _, x, h => h
  | n + 1, a, x, h => by
    unfold g_mx
    refine g_mx_le hs n (a + 1) _ ?_
    split
    · have : g_al v set a ≤ 10 := g_pc_le _
      omega
    · exact h
theorem px_max {σ : sw_St} {a n : Nat} (ha : a < 2 ^ 31) (hn : n < 2 ^ 31) : F_J9_max_7cf53 σ (nI a) (nI n) = some (nI (max a n), σ) := by
  unfold F_J9_max_7cf53
  (try unfold S_J9_max_7cf53_10)
  by_cases h : a < n
  · rw [if_pos (nI_lt h hn), show max a n = n by omega]
  · rw [if_neg (nI_nlt (by omega) ha), show max a n = a by omega]
theorem pz_bb {α β : Type} {o : Option α} {v : α} {f : α → Option β} (h : o = some v) : o.bind f = f v := by
  rw [h]
  rfl
theorem px_ml1 {σ : sw_St} {l : Nat → Nat → Nat} {P : Nat → List Nat} {D : g_D} {s most d set a x : Nat} {vv : Nat → Nat} {c5 : sw_St → Int32 → Int32 → Int32 → Int32 → Option (Int32 × sw_St)} (hvv : ∀ c, g_cr l P D s c d = vv c) (hg : g_ld l P) (hd : g_dk l D) (hs : s < l 0 2) (hcf : px_cf σ l P D s most 10) (hn : d ≤ most) (hm : most ≤ 30) (hset : set < 1024) (ha : a < 10) (hx : x ≤ 10) : S_X1_mostLeft_5 c5 σ (nI d) (nI set) (nI x) (nI a) = c5 σ (nI d) (nI set) (nI (if set.testBit a = true then max x (g_al vv set a) else x)) (nI (a + 1)) := by
  have hlt := g_cr_lt (d := d) hg hd hs (show a ≤ 9 by omega)
  have hal : g_al vv set a ≤ 10 := g_pc_le _
  have hand : g_bits (fun b => decide (vv b = vv a)) 10 &&& set < 1024 := Nat.lt_of_le_of_lt Nat.and_le_right hset
  have eC : F_X1_curiousBy σ (nI d) (nI (vv a)) = some (nI (g_bits (fun b => decide (vv b = vv a)) 10), σ) := by
    rw [hvv] at hlt
    have h0 := px_cby hg hd hs hcf hn hm hlt 10 sw_fuel 0 (by omega) (by have := sw_fuel_ge; omega)
    rw [g_bits_cong (p := fun c => decide (g_cr l P D s c d = vv a)) (q := fun b => decide (vv b = vv a)) (n := 10) (fun i _ => by rw [hvv])] at h0
    exact h0
  have eB : F_J6_bitCount_0f7a4 σ (nI (g_bits (fun b => decide (vv b = vv a)) 10 &&& set)) = some (nI (g_al vv set a), σ) := px_bc hand
  have eI : σ.1 57 (31 * a + d) = nI (vv a) := by rw [hcf a d (by omega) hn, hvv]
  unfold S_X1_mostLeft_5 S_X1_mostLeft_53
  rw [if_neg (show ¬ (10 : Int32) ≤ nI a from nI_ge (b := 10) (by omega) (by omega)), nI_1]
  by_cases e : set.testBit a = true
  · rw [if_pos ((px_bitT (by omega) (by omega)).mpr e), if_pos e, px_ix31, if_pos (pz_inb (by omega) (by omega)), nI_clamp (by omega), eI, pz_bb eC]
    dsimp only
    rw [fa_and, pz_bb eB]
    dsimp only
    rw [pz_bb (px_max (by omega) (by omega))]
  · rw [if_neg (fun y => e ((px_bitT (by omega) (by omega)).mp y)), if_neg e]
theorem px_ml {σ : sw_St} {l : Nat → Nat → Nat} {P : Nat → List Nat} {D : g_D} {s most d set : Nat} (hg : g_ld l P) (hd : g_dk l D) (hs : s < l 0 2) (hcf : px_cf σ l P D s most 10) (hn : d ≤ most) (hm : most ≤ 30) (hset : set < 1024) : ∀ (n fuel a x : Nat), a + n = 10 → n < fuel → x ≤ 10 → L_X1_mostLeft_5 fuel σ (nI d) (nI set) (nI x) (nI a) = some (nI (g_mx (fun c => g_cr l P D s c d) set n a x), σ)
  | 0, fuel + 1, a, x, ha, hf, hx => by
    show S_X1_mostLeft_5 _ σ (nI d) (nI set) (nI x) (nI a) = _
    unfold S_X1_mostLeft_5
    rw [if_pos (show (10 : Int32) ≤ nI a from nI_le (a := 10) (by omega) (by omega))]
    rfl
  | n + 1, fuel + 1, a, x, ha, hf, hx => by
    show S_X1_mostLeft_5 _ σ (nI d) (nI set) (nI x) (nI a) = _
    rw [px_ml1 (fun _ => rfl) hg hd hs hcf hn hm hset (by omega) hx]
    refine px_ml hg hd hs hcf hn hm hset n fuel (a + 1) _ (by omega) (by omega) ?_
    have hal : g_al (fun c => g_cr l P D s c d) set a ≤ 10 := g_pc_le _
    split
    · exact Nat.max_le.mpr ⟨hx, hal⟩
    · exact hx
/-- what is left at the most -/
def g_lf (l : Nat → Nat → Nat) (P : Nat → List Nat) (D : g_D) (s set d t : Nat) : Nat := if t = s then g_mx (fun c => g_cr l P D s c d) set 10 0 0 else g_pc set
theorem g_lf_le {l : Nat → Nat → Nat} {P : Nat → List Nat} {D : g_D} {s set d t : Nat} (hs : set < 1024) : g_lf l P D s set d t ≤ 10 := by
  unfold g_lf
  split
  · exact g_mx_le hs _ _ _ (by omega)
  · exact g_pc_le _
theorem g_ti_k {l : Nat → Nat → Nat} {P : Nat → List Nat} {D : g_D} {s set d : Nat} {b : Option (Nat × Nat × Nat)} (hs : set < 1024) (hb : g_bk b) (hd : d ≤ 30) : ∀ n t, t + n ≤ 6 → g_bk (g_ti (g_lf l P D s set) d n t b)
  | n, t, h => by
    induction n generalizing t b with
    | zero => exact hb
    | succ n ih => exact ih (g_tu_k hb hd (by omega) (g_lf_le hs)) (t + 1) (by omega)
theorem g_to_k {l : Nat → Nat → Nat} {P : Nat → List Nat} {D : g_D} {s set : Nat} {b : Option (Nat × Nat × Nat)} (hs : set < 1024) (h6 : l 0 2 ≤ 6) (hb : g_bk b) : ∀ n d, d + n ≤ 31 → g_bk (g_to (g_lf l P D s set) (l 0 2) n d b)
  | n, d, h => by
    induction n generalizing d b with
    | zero => exact hb
    | succ n ih => exact ih (g_ti_k hs hb (by omega) (l 0 2) 0 (by omega)) (d + 1) (by omega)
theorem px_t34 {σ : sw_St} {s set d most : Nat} {x3 : Int32} {c20 : sw_St → Int32 → Int32 → Int32 → Int32 → Int32 → Int32 → Int32 → Int32 → Option (Int32 × sw_St)} {w : Nat} {l : Nat → Nat → Nat} {P : Nat → List Nat} {D : g_D} (hg : g_ld l P) (hd : g_dk l D) (hs : s < l 0 2) (hl : px_ld σ w l P) (hcf : px_cf σ l P D s most 10) (hn : d ≤ most) (hm : most ≤ 30) (hset : set < 1024) : ∀ (n fuel t : Nat) (b : Option (Nat × Nat × Nat)), g_bk b → t + n = l 0 2 → n < fuel → L_X1_telling_34 c20 fuel σ (nI s) (nI set) x3 (nI most) (g_bx b 0) (g_bx b 1) (g_bx b 2) (nI d) (nI t) = c20 σ (nI s) (nI set) x3 (nI most) (g_bx (g_ti (g_lf l P D s set) d n t b) 0) (g_bx (g_ti (g_lf l P D s set) d n t b) 1) (g_bx (g_ti (g_lf l P D s set) d n t b) 2) (nI (d + 1))
  | 0, fuel + 1, t, b, hb, ht, hf => by
    have h6 := hg.2.2.1
    show S_X1_telling_34 c20 _ σ (nI s) (nI set) x3 (nI most) (g_bx b 0) (g_bx b 1) (g_bx b 2) (nI d) (nI t) = _
    unfold S_X1_telling_34
    rw [hl.2.1]
    dsimp only [Option.bind_some]
    rw [if_pos (ld_O hl.1), hl.2.2.2.2.1, if_pos (nI_le (by omega) (by omega)), nI_1]
    rfl
  | n + 1, fuel + 1, t, b, hb, ht, hf => by
    have h6 := hg.2.2.1
    have hle : g_lf l P D s set d t ≤ 10 := g_lf_le hset
    have ih := px_t34 (x3 := x3) (c20 := c20) hg hd hs hl hcf hn hm hset n fuel (t + 1) (g_tu b d t (g_lf l P D s set d t)) (g_tu_k hb (by omega) (by omega) hle) (by omega) (by omega)
    have e69 : S_X1_telling_69 c20 (fun σ x1 x2 x3 x4 x5 x6 x7 x8 x9 => L_X1_telling_34 c20 fuel σ x1 x2 x3 x4 x5 x6 x7 x8 x9) σ (nI s) (nI set) x3 (nI most) (g_bx b 0) (g_bx b 1) (g_bx b 2) (nI d) (nI t) (nI (g_lf l P D s set d t)) = L_X1_telling_34 c20 fuel σ (nI s) (nI set) x3 (nI most) (g_bx (g_tu b d t (g_lf l P D s set d t)) 0) (g_bx (g_tu b d t (g_lf l P D s set d t)) 1) (g_bx (g_tu b d t (g_lf l P D s set d t)) 2) (nI d) (nI (t + 1)) := by
      unfold S_X1_telling_69 S_X1_telling_84 S_X1_telling_96
      rw [nI_1]
      cases b with
      | none =>
        rw [if_pos (show g_bx none 2 = -1 from rfl)]
        rfl
      | some y =>
        have hy := hb y rfl
        rw [show g_bx (some y) 2 = nI y.2.2 from rfl, if_neg (pz_nm1 (by omega))]
        by_cases e : g_lf l P D s set d t < y.2.2
        · rw [if_neg (nI_ge e (by omega)), show g_tu (some y) d t (g_lf l P D s set d t) = some (d, t, g_lf l P D s set d t) from if_pos e]
          rfl
        · rw [if_pos (nI_le (by omega) (by omega)), show g_tu (some y) d t (g_lf l P D s set d t) = some y from if_neg e]
          rfl
    show S_X1_telling_34 c20 _ σ (nI s) (nI set) x3 (nI most) (g_bx b 0) (g_bx b 1) (g_bx b 2) (nI d) (nI t) = _
    unfold S_X1_telling_34
    rw [hl.2.1]
    dsimp only [Option.bind_some]
    rw [if_pos (ld_O hl.1), hl.2.2.2.2.1, if_neg (nI_ge (by omega) (by omega))]
    refine Eq.trans ?_ ih
    rw [← e69]
    by_cases e : t = s
    · have eM : F_X1_mostLeft σ (nI d) (nI set) = some (nI (g_mx (fun c => g_cr l P D s c d) set 10 0 0), σ) := px_ml hg hd hs hcf hn hm hset 10 sw_fuel 0 0 (by omega) (by have := sw_fuel_ge; omega) (by omega)
      rw [if_pos (by rw [e]), eM]
      unfold g_lf
      rw [if_pos e]
      rfl
    · rw [if_neg (fun z => e (by rw [nI_eq (by omega) (by omega)] at z; exact z)), px_bc hset]
      unfold g_lf
      rw [if_neg e]
      rfl
theorem px_t20 {σ : sw_St} {s set most : Nat} {x3 : Int32} {w : Nat} {l : Nat → Nat → Nat} {P : Nat → List Nat} {D : g_D} (hg : g_ld l P) (hd : g_dk l D) (hs : s < l 0 2) (hl : px_ld σ w l P) (hcf : px_cf σ l P D s most 10) (hm : most ≤ 30) (hset : set < 1024) (h0 : 0 < set) : ∀ (n fuel d : Nat) (b : Option (Nat × Nat × Nat)), g_bk b → d + n = most + 1 → n < fuel → L_X1_telling_20 fuel σ (nI s) (nI set) x3 (nI most) (g_bx b 0) (g_bx b 1) (g_bx b 2) (nI d) = S_X1_telling_108 σ x3 (g_bx (g_to (g_lf l P D s set) (l 0 2) n d b) 0) (g_bx (g_to (g_lf l P D s set) (l 0 2) n d b) 1) (g_bx (g_to (g_lf l P D s set) (l 0 2) n d b) 2)
  | 0, fuel + 1, d, b, hb, hd2, hf => by
    show S_X1_telling_20 _ σ (nI s) (nI set) x3 (nI most) (g_bx b 0) (g_bx b 1) (g_bx b 2) (nI d) = _
    unfold S_X1_telling_20
    rw [if_pos (nI_lt (by omega) (by omega))]
    rfl
  | n + 1, fuel + 1, d, b, hb, hd2, hf => by
    have h6 := hg.2.2.1
    show S_X1_telling_20 _ σ (nI s) (nI set) x3 (nI most) (g_bx b 0) (g_bx b 1) (g_bx b 2) (nI d) = _
    unfold S_X1_telling_20
    rw [if_neg (nI_nlt (by omega) (by omega)), if_neg (nI_ne0 h0 (by omega)), show (0 : Int32) = nI 0 from rfl, px_t34 hg hd hs hl hcf (by omega) hm hset (l 0 2) sw_fuel 0 b hb (by omega) (by have := sw_fuel_ge; omega)]
    refine px_t20 hg hd hs hl hcf hm hset h0 n fuel (d + 1) _ (g_ti_k hset hb (by omega) (l 0 2) 0 (by omega)) (by omega) (by omega)
theorem pm_a30 {τ : sw_St} {set k a : Nat} {vv : Nat → Nat} {c5 : sw_St → Int32 → Int32 → Int32 → Int32 → Option (Int32 × sw_St)} (hset : set < 1024) (hk : k < 186) (ha : a < 10) (hv : ∀ b, b < 10 → τ.1 45 (186 * b + k) = nI (vv b) ∧ vv b < 64) (x : Nat) (hx : x ≤ 10) : ∀ (n fuel b : Nat), b + n = 10 → n < fuel → L_X11_mostAlike_30 c5 fuel τ (nI set) (nI k) (nI x) (nI a) (nI (fb_ct (fun j => (g_bits (fun b => decide (vv b = vv a)) 10 &&& set).testBit j) b)) (nI b) = c5 τ (nI set) (nI k) (nI (max x (g_al vv set a))) (nI (a + 1))
  | 0, fuel + 1, b, hb, hf => by
    have hal : g_al vv set a ≤ 10 := g_pc_le _
    have e : fb_ct (fun j => (g_bits (fun b => decide (vv b = vv a)) 10 &&& set).testBit j) b = g_al vv set a := by
      rw [show b = 10 by omega]
      exact g_pc_ct 10 (by omega) _ (Nat.and_lt_two_pow (n := 10) _ (by omega))
    rw [e]
    show S_X11_mostAlike_30 c5 _ τ (nI set) (nI k) (nI x) (nI a) (nI (g_al vv set a)) (nI b) = _
    unfold S_X11_mostAlike_30 S_X11_mostAlike_94
    rw [if_pos (show (9 : Int32) < nI b from nI_lt (a := 9) (by omega) (by omega)), nI_1]
    by_cases z : g_al vv set a ≤ x
    · rw [if_pos (nI_le z (by omega)), show max x (g_al vv set a) = x by omega]
    · rw [if_neg (nI_ge (by omega) (by omega)), show max x (g_al vv set a) = g_al vv set a by omega]
  | n + 1, fuel + 1, b, hb, hf => by
    obtain ⟨v1, v2⟩ := hv a ha
    obtain ⟨w1, w2⟩ := hv b (by omega)
    have ih := pm_a30 (c5 := c5) hset hk ha hv x hx n fuel (b + 1) (by omega) (by omega)
    have ebit : (g_bits (fun b => decide (vv b = vv a)) 10 &&& set).testBit b = (decide (vv b = vv a) && set.testBit b) := by
      rw [Nat.testBit_and, g_bits_at, decide_eq_true (show b < 10 by omega), Bool.true_and]
    rw [show fb_ct (fun j => (g_bits (fun b => decide (vv b = vv a)) 10 &&& set).testBit j) (b + 1) = fb_ct (fun j => (g_bits (fun b => decide (vv b = vv a)) 10 &&& set).testBit j) b + (if (g_bits (fun b => decide (vv b = vv a)) 10 &&& set).testBit b = true then 1 else 0) from rfl, ebit] at ih
    rw [← ih]
    show S_X11_mostAlike_30 c5 _ τ (nI set) (nI k) (nI x) (nI a) _ (nI b) = _
    unfold S_X11_mostAlike_30 S_X11_mostAlike_79
    have ix : ∀ c : Nat, (186 : Int32) * nI c + nI k = nI (186 * c + k) := fun c => by rw [show (186 : Int32) = nI 186 from rfl, pk_mul, nI_add]
    rw [if_neg (show ¬ (9 : Int32) < nI b from nI_nlt (a := 9) (by omega) (by omega)), ix, ix, nI_1, nI_1]
    by_cases e : set.testBit b = true
    · rw [if_pos ((px_bitT (by omega) (by omega)).mpr e), if_pos (pz_inb (by omega) (by omega)), if_pos (pz_inb (by omega) (by omega)), nI_clamp (by omega), nI_clamp (by omega), v1, w1, e, Bool.and_true]
      by_cases z : vv b = vv a
      · rw [if_pos (by rw [z]), if_pos (decide_eq_true z)]
      · rw [if_neg (fun y => z (by rw [nI_eq (by omega) (by omega)] at y; exact y.symm)), if_neg (by simpa using z)]
        rfl
    · rw [if_neg (fun z => e ((px_bitT (by omega) (by omega)).mp z)), show set.testBit b = false from by simpa using e, Bool.and_false, if_neg (by decide)]
      rfl
theorem pm_a5 {τ : sw_St} {set k : Nat} {vv : Nat → Nat} (hset : set < 1024) (hk : k < 186) (hv : ∀ b, b < 10 → τ.1 45 (186 * b + k) = nI (vv b) ∧ vv b < 64) : ∀ (n fuel a x : Nat), a + n = 10 → n < fuel → x ≤ 10 → L_X11_mostAlike_5 fuel τ (nI set) (nI k) (nI x) (nI a) = some (nI (g_mx vv set n a x), τ)
  | 0, fuel + 1, a, x, ha, hf, hx => by
    show S_X11_mostAlike_5 _ τ (nI set) (nI k) (nI x) (nI a) = _
    unfold S_X11_mostAlike_5
    rw [if_pos (show (9 : Int32) < nI a from nI_lt (a := 9) (by omega) (by omega))]
    rfl
  | n + 1, fuel + 1, a, x, ha, hf, hx => by
    have hal : g_al vv set a ≤ 10 := g_pc_le _
    show S_X11_mostAlike_5 _ τ (nI set) (nI k) (nI x) (nI a) = _
    unfold S_X11_mostAlike_5 S_X11_mostAlike_94 g_mx
    rw [if_neg (show ¬ (9 : Int32) < nI a from nI_nlt (a := 9) (by omega) (by omega)), nI_1]
    by_cases e : set.testBit a = true
    · rw [if_neg (fun z => by rw [(px_bitF (by omega) (by omega)).mp z] at e; cases e), if_pos e, show L_X11_mostAlike_30 (fun σ x1 x2 x3 x4 => L_X11_mostAlike_5 fuel σ x1 x2 x3 x4) sw_fuel τ (nI set) (nI k) (nI x) (nI a) 0 0 = _ from pm_a30 hset hk (show a < 10 by omega) hv x hx 10 sw_fuel 0 (by omega) (by have := sw_fuel_ge; omega)]
      exact pm_a5 hset hk hv n fuel (a + 1) _ (by omega) (by omega) (by omega)
    · rw [if_pos ((px_bitF (by omega) (by omega)).mpr (by simpa using e)), if_neg e]
      exact pm_a5 hset hk hv n fuel (a + 1) x (by omega) (by omega) hx
theorem g_mx_k : ∀ set, set < 1024 → 0 < set → g_mx (fun _ => 0) set 10 0 0 = g_pc set := by decide +kernel
theorem g_mx_c {c set : Nat} : ∀ n a x, g_mx (fun _ => c) set n a x = g_mx (fun _ => 0) set n a x
  | 0, _, _ => rfl
  | n + 1, a, x => by
    unfold g_mx
    rw [g_mx_c n, show g_al (fun _ => c) set a = g_al (fun _ => 0) set a from by
      unfold g_al
      rw [g_bits_cong (p := fun _ => decide (c = c)) (q := fun _ => decide ((0 : Nat) = 0)) (fun i _ => by rw [decide_eq_true rfl, decide_eq_true rfl])]]
theorem pm_lf {τ : sw_St} {s set d t : Nat} {l : Nat → Nat → Nat} {P : Nat → List Nat} {D : g_D} (hg : g_ld l P) (hd : g_dk l D) (hcf : pm_cf τ l P D s 10) (hset : set < 1024) (h0 : 0 < set) (hd30 : d ≤ 30) (ht : t < l 0 2) : F_X11_mostAlike τ (nI set) (nI (6 * d + t)) = some (nI (g_lf l P D s set d t), τ) := by
  have h6 := hg.2.2.1
  have e : F_X11_mostAlike τ (nI set) (nI (6 * d + t)) = some (nI (g_mx (fun v => g_cr l P D t (g_cu l s v t) d) set 10 0 0), τ) := pm_a5 hset (by omega) (fun b hb => ⟨by rw [← Nat.add_assoc]; exact hcf b d t hb hd30 ht, g_cr_lt hg hd ht (g_cu_le (P := P) hd (by omega) ht).1.1⟩) 10 sw_fuel 0 0 (by omega) (by have := sw_fuel_ge; omega) (by omega)
  rw [e]
  unfold g_lf g_cu
  by_cases z : t = s
  · simp only [if_pos z]
    rw [z]
  · simp only [if_neg z]
    rw [g_mx_c, g_mx_k set hset h0]
theorem pm_t59 {τ : sw_St} {s set d : Nat} {x2 : Int32} {c40 : sw_St → Int32 → Int32 → Int32 → Int32 → Int32 → Int32 → Option (Int32 × sw_St)} {l : Nat → Nat → Nat} {P : Nat → List Nat} {D : g_D} (hg : g_ld l P) (hd : g_dk l D) (hl : pm_ld τ l P) (hcf : pm_cf τ l P D s 10) (hset : set < 1024) (h0 : 0 < set) (hd30 : d ≤ 30) : ∀ (n fuel t : Nat) (b : Option (Nat × Nat × Nat)), g_bk b → t + n = l 0 2 → n < fuel → L_X11_tells_59 c40 fuel τ x2 (nI set) (g_bx b 0) (g_bx b 1) (g_bm b) (nI d) (nI t) = c40 τ x2 (nI set) (g_bx (g_ti (g_lf l P D s set) d n t b) 0) (g_bx (g_ti (g_lf l P D s set) d n t b) 1) (g_bm (g_ti (g_lf l P D s set) d n t b)) (nI (d + 1))
  | 0, fuel + 1, t, b, hb, ht, hf => by
    have h6 := hg.2.2.1
    show S_X11_tells_59 c40 _ τ x2 (nI set) (g_bx b 0) (g_bx b 1) (g_bm b) (nI d) (nI t) = _
    unfold S_X11_tells_59 F_X11_sheepMany
    dsimp only [Option.bind_some]
    rw [hl.2.2.1, if_pos (nI_le (by omega) (by omega)), nI_1]
    rfl
  | n + 1, fuel + 1, t, b, hb, ht, hf => by
    have h6 := hg.2.2.1
    have hle : g_lf l P D s set d t ≤ 10 := g_lf_le hset
    have ih := pm_t59 (x2 := x2) (c40 := c40) hg hd hl hcf hset h0 hd30 n fuel (t + 1) (g_tu b d t (g_lf l P D s set d t)) (g_tu_k hb (by omega) (by omega) hle) (by omega) (by omega)
    refine Eq.trans ?_ ih
    show S_X11_tells_59 c40 _ τ x2 (nI set) (g_bx b 0) (g_bx b 1) (g_bm b) (nI d) (nI t) = _
    unfold S_X11_tells_59 S_X11_tells_99 S_X11_tells_111 F_X11_sheepMany
    dsimp only [Option.bind_some]
    rw [hl.2.2.1, if_neg (nI_ge (by omega) (by omega)), show (6 : Int32) * nI d + nI t = nI (6 * d + t) from by rw [show (6 : Int32) = nI 6 from rfl, pk_mul, nI_add], pm_lf hg hd hcf hset h0 hd30 (by omega)]
    dsimp only [Option.bind_some]
    rw [nI_1]
    cases b with
    | none =>
      rw [if_pos (show g_bx none 0 = -1 from rfl)]
      rfl
    | some y =>
      have hy := hb y rfl
      rw [show g_bx (some y) 0 = nI y.1 from rfl, if_neg (pz_nm1 (by omega)), show g_bm (some y) = nI y.2.2 from rfl]
      by_cases e : g_lf l P D s set d t < y.2.2
      · rw [if_pos (nI_lt e (by omega)), show g_tu (some y) d t (g_lf l P D s set d t) = some (d, t, g_lf l P D s set d t) from if_pos e]
        rfl
      · rw [if_neg (nI_nlt (by omega) (by omega)), show g_tu (some y) d t (g_lf l P D s set d t) = some y from if_neg e]
        rfl
theorem pm_t40 {τ : sw_St} {s set : Nat} {x2 : Int32} {l : Nat → Nat → Nat} {P : Nat → List Nat} {D : g_D} (hg : g_ld l P) (hd : g_dk l D) (hl : pm_ld τ l P) (h37 : τ.1 37 0 = nI (D.1 0)) (hcf : pm_cf τ l P D s 10) (hset : set < 1024) (h0 : 0 < set) : ∀ (n fuel d : Nat) (b : Option (Nat × Nat × Nat)), g_bk b → 1 ≤ d → d + n = min 30 (999 - D.1 0) + 1 → n < fuel → L_X11_tells_40 fuel τ x2 (nI set) (g_bx b 0) (g_bx b 1) (g_bm b) (nI d) = S_X11_tells_123 τ x2 (g_bx (g_to (g_lf l P D s set) (l 0 2) n d b) 0) (g_bx (g_to (g_lf l P D s set) (l 0 2) n d b) 1) (g_bm (g_to (g_lf l P D s set) (l 0 2) n d b))
  | 0, fuel + 1, d, b, hb, h1, hd2, hf => by
    have hd9 := hd.1
    have e : g_cm (nI d) 1 30 (D.1 0) = false := by
      unfold g_cm
      rw [nI_toInt (by omega)]
      exact decide_eq_false (by omega)
    show S_X11_tells_40 _ τ x2 (nI set) (g_bx b 0) (g_bx b 1) (g_bm b) (nI d) = _
    unfold S_X11_tells_40
    rw [if_neg (nI_ne0 h0 (by omega)), show F_X11_isAhead τ (nI d) 1 30 = _ from pm_ahead (lo := 1) (most := 30) hd9 (by omega) (by omega) h37, e]
    dsimp only [Option.bind_some]
    rw [if_pos (by decide)]
    rfl
  | n + 1, fuel + 1, d, b, hb, h1, hd2, hf => by
    have hd9 := hd.1
    have h6 := hg.2.2.1
    have e : g_cm (nI d) 1 30 (D.1 0) = true := by
      unfold g_cm
      rw [nI_toInt (by omega)]
      exact decide_eq_true (by omega)
    show S_X11_tells_40 _ τ x2 (nI set) (g_bx b 0) (g_bx b 1) (g_bm b) (nI d) = _
    unfold S_X11_tells_40
    rw [if_neg (nI_ne0 h0 (by omega)), show F_X11_isAhead τ (nI d) 1 30 = _ from pm_ahead (lo := 1) (most := 30) hd9 (by omega) (by omega) h37, e]
    dsimp only [Option.bind_some]
    rw [if_neg (by decide), show L_X11_tells_59 (fun σ x2 x3 x4 x5 x6 x7 => L_X11_tells_40 fuel σ x2 x3 x4 x5 x6 x7) sw_fuel τ x2 (nI set) (g_bx b 0) (g_bx b 1) (g_bm b) (nI d) 0 = _ from pm_t59 hg hd hl hcf hset h0 (by omega) (l 0 2) sw_fuel 0 b hb (by omega) (by have := sw_fuel_ge; omega)]
    exact pm_t40 hg hd hl h37 hcf hset h0 n fuel (d + 1) _ (g_ti_k hset hb (by omega) (l 0 2) 0 (by omega)) (by omega) (by omega) (by omega)
theorem g_cs_lt (l : Nat → Nat → Nat) (P : Nat → List Nat) (D : g_D) (F : List (Nat × Nat × Nat)) (s : Nat) : g_cs l P D F s < 1024 := g_bits_lt _ 10
theorem op_24 : ll_24 RR := by
  intro x m hR a b
  obtain ⟨w, l, P, nm, D, U, F, T, sd, rf, ft, im, hG, hX, hM⟩ := hR
  have hR : RR x m := ⟨w, l, P, nm, D, U, F, T, sd, rf, ft, im, hG, hX, hM⟩
  have hfu := sw_fuel_ge
  unfold F_X10_tells F_X11_tells S_X10_tells_17 S_X11_tells_20
  rw [px_isSheep hG.1 hX.1, pm_isSheep hG.1 hM.1]
  dsimp only [Option.bind_some]
  by_cases h : g_in a (l 0 2) = true
  · obtain ⟨s, hs, rfl⟩ := g_in_of h
    rw [if_pos h, if_neg pz_10, if_neg pz_10, pm_inL m b 2 (by decide)]
    dsimp only [Option.bind_some]
    by_cases hb : g_in b 3 = true
    · obtain ⟨j, hj, rfl⟩ := g_in_of hb
      rw [if_pos hb, if_neg pz_10, if_neg (nI_pos (by omega)), if_pos (show nI j ≤ (2 : Int32) from nI_le (b := 2) (by omega) (by omega))]
      obtain ⟨σ1, σ2, p1, p2, p3, p4⟩ := px_cset hG hs hX
      obtain ⟨τ2, q1, q2, q3⟩ := pm_cset hG hs hM
      have hset := g_cs_lt l P D F s
      have hd9 := hG.2.2.1.1
      rw [p1]
      dsimp only [Option.bind_some]
      rw [p2, q1]
      dsimp only [Option.bind_some]
      unfold F_X1_telling
      rw [px_most30 p3.2.2.2.1.1 hd9]
      dsimp only [Option.bind_some]
      by_cases h0 : 0 < g_cs l P D F s
      · rw [show L_X1_telling_20 sw_fuel σ2 (nI s) (nI (g_cs l P D F s)) (nI j) (nI (min 30 (999 - D.1 0))) (-1) (-1) (-1) 1 = _ from px_t20 (x3 := nI j) hG.1 hG.2.2.1 hs p3.1 p4 (by omega) hset h0 (min 30 (999 - D.1 0)) sw_fuel 1 none (fun y hy => by cases hy) (by omega) (by omega)]
        rw [show L_X11_tells_40 sw_fuel τ2 (nI j) (nI (g_cs l P D F s)) (-1) (-1) 0 1 = _ from pm_t40 (x2 := nI j) hG.1 hG.2.2.1 q2.1 q2.2.2.1.1 q3 hset h0 (min 30 (999 - D.1 0)) sw_fuel 1 none (fun y hy => by cases hy) (by omega) (by omega) (by omega)]
        have hbk : g_bk (g_to (g_lf l P D s (g_cs l P D F s)) (l 0 2) (min 30 (999 - D.1 0)) 1 none) := g_to_k hset hG.1.2.2.1 (fun y hy => by cases hy) _ 1 (by omega)
        generalize g_to (g_lf l P D s (g_cs l P D F s)) (l 0 2) (min 30 (999 - D.1 0)) 1 none = bb at hbk ⊢
        have key : ∃ v, S_X1_telling_108 σ2 (nI j) (g_bx bb 0) (g_bx bb 1) (g_bx bb 2) = some (v, σ2) ∧ S_X11_tells_123 τ2 (nI j) (g_bx bb 0) (g_bx bb 1) (g_bm bb) = some (v, τ2) := by
          unfold S_X1_telling_108 S_X1_telling_129 S_X11_tells_123 S_X11_tells_154
          cases bb with
          | none =>
            refine ⟨-1, ?_, if_pos rfl⟩
            by_cases e0 : nI j = 0
            · exact if_pos e0
            · rw [if_neg e0]
              by_cases e1 : nI j = 1
              · exact if_pos e1
              · exact if_neg e1
          | some y =>
            have hy := hbk y rfl
            rw [if_neg (show ¬ g_bx (some y) 0 = -1 from pz_nm1 (n := y.1) (by omega))]
            by_cases e0 : nI j = 0
            · rw [if_pos e0, if_pos e0]
              exact ⟨_, rfl, rfl⟩
            · rw [if_neg e0, if_neg e0]
              by_cases e1 : nI j = 1
              · rw [if_pos e1, if_pos e1]
                exact ⟨_, rfl, rfl⟩
              · rw [if_neg e1, if_neg e1]
                exact ⟨_, rfl, rfl⟩
        obtain ⟨v, k1, k2⟩ := key
        rw [k1, k2]
        exact ⟨v, σ2, τ2, rfl, rfl, w, l, P, nm, D, U, F, T, sd, rf, ft, im, hG, p3, q2⟩
      · have z : g_cs l P D F s = 0 := by omega
        rw [z]
        refine ⟨-1, σ2, τ2, ?_, ?_, w, l, P, nm, D, U, F, T, sd, rf, ft, im, hG, p3, q2⟩
        · obtain ⟨f, hf⟩ : ∃ f, sw_fuel = f + 1 := ⟨sw_fuel - 1, by omega⟩
          rw [hf]
          show ((S_X1_telling_20 _ σ2 (nI s) (nI 0) (nI j) (nI (min 30 (999 - D.1 0))) (-1) (-1) (-1) 1)).bind _ = _
          unfold S_X1_telling_20 S_X1_telling_108 S_X1_telling_129
          rw [if_pos (show nI 0 = 0 from rfl)]
          split <;> (try rfl)
          all_goals (split <;> (try rfl))
          all_goals (split <;> rfl)
        · obtain ⟨f, hf⟩ : ∃ f, sw_fuel = f + 1 := ⟨sw_fuel - 1, by omega⟩
          rw [hf]
          show S_X11_tells_40 _ τ2 (nI j) (nI 0) (-1) (-1) 0 1 = _
          unfold S_X11_tells_40 S_X11_tells_123 S_X11_tells_154
          rw [if_pos (show nI 0 = 0 from rfl), if_pos rfl]
    · rw [if_neg hb, if_pos rfl]
      refine ⟨-1, x, m, ?_, rfl, hR⟩
      rcases g_in_no hb (by omega) with q | ⟨q1, q2, q3⟩
      · rw [if_pos q]
      · rw [if_neg q1, if_neg (show ¬ b ≤ (2 : Int32) from by rw [fa_le, show (2 : Int32).toInt = 2 from by decide]; rw [fa_le, nI_toInt (by omega)] at q2; omega)]
  · rw [if_neg h, if_pos rfl, if_pos rfl]
    exact ⟨-1, x, m, rfl, rfl, hR⟩

/-! The fewest gaps to be changed: what is best of a set. -/
theorem pz_ba {a b : Bool} (h : (a && b) = true) : a = true ∧ b = true := by
  cases a
  · cases h
  · exact ⟨rfl, h⟩
def g_le2 (X Y : Nat) : Prop := g_pc X < g_pc Y ∨ g_pc X = g_pc Y ∧ X ≤ Y
theorem g_le2_tr {X Y W : Nat} (h1 : g_le2 X Y) (h2 : g_le2 Y W) : g_le2 X W := by
  unfold g_le2 at *
  omega
theorem g_le2_as {X Y : Nat} (h1 : g_le2 X Y) (h2 : g_le2 Y X) : X = Y := by
  unfold g_le2 at *
  omega
theorem g_le2_rf (X : Nat) : g_le2 X X := Or.inr ⟨rfl, Nat.le_refl _⟩
def g_bt (b b' : Option Nat) (S : Nat → Prop) : Prop := (b' = b ∨ ∃ X, S X ∧ b' = some X) ∧ (∀ X, S X → ∃ Y, b' = some Y ∧ g_le2 Y X) ∧ ∀ Q, b = some Q → ∃ Y, b' = some Y ∧ g_le2 Y Q
theorem g_bt_rf {b : Option Nat} {S : Nat → Prop} (h : ∀ X, S X → ∃ Y, b = some Y ∧ g_le2 Y X) : g_bt b b S := ⟨Or.inl rfl, h, fun Q hQ => ⟨Q, hQ, g_le2_rf Q⟩⟩
theorem g_bt_tr {b b1 b2 : Option Nat} {S S1 S2 : Nat → Prop} (h1 : g_bt b b1 S1) (h2 : g_bt b1 b2 S2) (hS : ∀ X, S X ↔ S1 X ∨ S2 X) : g_bt b b2 S := by
  obtain ⟨a1, a2, a3⟩ := h1
  obtain ⟨c1, c2, c3⟩ := h2
  refine ⟨?_, fun X hX => ?_, fun Q hQ => ?_⟩
  · rcases c1 with c1 | ⟨X, hX, c1⟩
    · rcases a1 with a1 | ⟨X, hX, a1⟩
      · exact Or.inl (c1.trans a1)
      · exact Or.inr ⟨X, (hS X).mpr (Or.inl hX), c1.trans a1⟩
    · exact Or.inr ⟨X, (hS X).mpr (Or.inr hX), c1⟩
  · rcases (hS X).mp hX with hX | hX
    · obtain ⟨Y, hY, e⟩ := a2 X hX
      obtain ⟨Y2, hY2, e2⟩ := c3 Y hY
      exact ⟨Y2, hY2, g_le2_tr e2 e⟩
    · exact c2 X hX
  · obtain ⟨Y, hY, e⟩ := a3 Q hQ
    obtain ⟨Y2, hY2, e2⟩ := c3 Y hY
    exact ⟨Y2, hY2, g_le2_tr e2 e⟩
theorem g_bt_eq {b b' : Option Nat} {S S' : Nat → Prop} (h : g_bt b b' S) (hS : ∀ X, S X ↔ S' X) : g_bt b b' S' := by
  obtain ⟨a1, a2, a3⟩ := h
  refine ⟨?_, fun X hX => a2 X ((hS X).mpr hX), a3⟩
  rcases a1 with a1 | ⟨X, hX, a1⟩
  · exact Or.inl a1
  · exact Or.inr ⟨X, (hS X).mp hX, a1⟩
theorem g_bt_un {b1 b2 : Option Nat} {S : Nat → Prop} (h1 : g_bt none b1 S) (h2 : g_bt none b2 S) : b1 = b2 := by
  obtain ⟨a1, a2, -⟩ := h1
  obtain ⟨c1, c2, -⟩ := h2
  rcases a1 with a1 | ⟨X, hX, a1⟩
  · rcases c1 with c1 | ⟨Y, hY, c1⟩
    · rw [a1, c1]
    · obtain ⟨W, hW, -⟩ := a2 Y hY
      rw [a1] at hW
      cases hW
  · obtain ⟨Y2, hY2, e2⟩ := c2 X hX
    rcases c1 with c1 | ⟨Y, hY, c1⟩
    · rw [c1] at hY2
      cases hY2
    · obtain ⟨W, hW, e⟩ := a2 Y hY
      rw [a1] at hW
      rw [c1] at hY2
      rw [← Option.some.inj hW] at e
      rw [← Option.some.inj hY2] at e2
      rw [a1, c1, g_le2_as e e2]
theorem g_pc_sub {X Y : Nat} (hX : X < 1024) (hY : Y < 1024) (h : ∀ k, X.testBit k = true → Y.testBit k = true) : g_le2 X Y := by
  have e1 := g_pc_ct 10 (by omega) X (by omega)
  have e2 := g_pc_ct 10 (by omega) Y (by omega)
  have e3 : fb_ct (fun j => X.testBit j) 10 ≤ fb_ct (fun j => Y.testBit j) 10 := fb_ct_sub (fun k _ hk => h k hk)
  have e4 : X &&& Y = X := by
    apply Nat.eq_of_testBit_eq
    intro i
    rw [Nat.testBit_and]
    cases hx : X.testBit i
    · rfl
    · rw [h i hx]; rfl
  have e5 : X &&& Y ≤ Y := Nat.and_le_right
  unfold g_le2
  omega
theorem g_best_ch (v : Nat → Int) : ∀ n g, (g_best v n).1 = some g ↔ (g < n ∧ 0 < v g ∧ (∀ j, j < g → v j < v g) ∧ ∀ j, j < n → v j ≤ v g)
  | 0, g => ⟨fun h => (by cases h), fun h => by omega⟩
  | n + 1, g => by
    have ih := g_best_ch v n
    obtain ⟨s1, s2, s3, s4⟩ := g_best_sp v n
    unfold g_best
    by_cases c : (g_best v n).2 < v n
    · rw [if_pos c]
      constructor
      · intro h
        rw [← Option.some.inj h]
        exact ⟨by omega, by omega, fun j hj => by have := s4 j hj; omega, fun j hj => by
          by_cases e : j = n
          · rw [e]; exact Int.le_refl _
          · have := s4 j (by omega); omega⟩
      · rintro ⟨h1, h2, h3, h4⟩
        by_cases e : g = n
        · rw [e]
        · have := h4 n (by omega)
          have := s4 g (by omega)
          omega
    · rw [if_neg c, ih]
      constructor
      · rintro ⟨h1, h2, h3, h4⟩
        refine ⟨by omega, h2, h3, fun j hj => ?_⟩
        by_cases e : j = n
        · rw [e]
          have := (ih g).mpr ⟨h1, h2, h3, h4⟩
          rw [this] at s1
          (try dsimp only at s1)
          omega
        · exact h4 j (by omega)
      · rintro ⟨h1, h2, h3, h4⟩
        by_cases e : g = n
        · exfalso
          rw [e] at h2 h3
          cases hb : (g_best v n).1 with
          | none =>
            rw [hb] at s1
            (try dsimp only at s1)
            omega
          | some kk =>
            rw [hb] at s1
            have := h3 kk (s3 kk hb).1
            (try dsimp only at s1)
            omega
        · exact ⟨by omega, h2, h3, fun j hj => h4 j (by omega)⟩
theorem g_best_no {v : Nat → Int} {n : Nat} (h : ∀ j, j < n → v j ≤ 0) : (g_best v n).1 = none := by
  cases hb : (g_best v n).1 with
  | none => rfl
  | some kk =>
    have := (g_best_ch v n kk).mp hb
    have := h kk this.1
    omega
/-- what lures through a gap, open or not -/
theorem g_pull_u {l : Nat → Nat → Nat} {P : Nat → List Nat} {op : Nat → Bool} {day cur s k : Nat} {row : Nat → Nat} : g_pull l P op day cur row s k = if op k = true then g_pull l P (fun _ => true) day cur row s k else 0 := by
  unfold g_pull
  cases g_bey l k (row 0) with
  | none =>
    dsimp only
    split <;> rfl
  | some b =>
    dsimp only
    by_cases e : op k = true
    · rw [if_pos e, if_pos e, if_pos rfl]
    · rw [if_neg e, if_neg e]
/-! bits of whole numbers -/
theorem g_1023 {k : Nat} (h : k < 10) : Nat.testBit 1023 k = true := by
  have : ∀ k, k < 10 → Nat.testBit 1023 k = true := by decide
  exact this k h
theorem g_hi {n k : Nat} (hn : n < 1024) (hk : 10 ≤ k) : n.testBit k = false := Nat.testBit_lt_two_pow (Nat.lt_of_lt_of_le hn (Nat.pow_le_pow_right (n := 2) (by omega) hk))
theorem g_not10 {O k : Nat} (hk : k < 10) : (1023 ^^^ O).testBit k = !O.testBit k := by
  rw [Nat.testBit_xor, g_1023 hk]
  cases O.testBit k <;> rfl
theorem g_m1N : (-1 : Int32) = nI (2 ^ 32 - 1) := by decide
theorem g_anN {a b : Nat} (ha : a < 1024) : nI a &&& (nI b ^^^ (-1)) = nI (a &&& (1023 ^^^ b)) := by
  rw [g_m1N, fb_xorI, fa_and]
  congr 1
  apply Nat.eq_of_testBit_eq
  intro i
  rw [Nat.testBit_and, Nat.testBit_and, Nat.testBit_xor, Nat.testBit_two_pow_sub_one]
  by_cases hi : i < 10
  · rw [g_not10 hi, decide_eq_true (show i < 32 by omega)]
    cases a.testBit i <;> cases b.testBit i <;> rfl
  · rw [g_hi ha (by omega)]
    rfl
theorem g_mskN : ∀ y, y < 1024 → ∀ k, k < 10 → (((nI y ^^^ (-1)) >>> (nI k &&& 31)) &&& 1 = 0 ↔ y.testBit k = true) := by decide +kernel
theorem g_and0 {a g : Nat} (ha : a < 1024) (hg : g < 10) : nI a &&& nI (2 ^ g) = 0 ↔ a.testBit g = false := by
  have hlt : a &&& 2 ^ g < 1024 := Nat.lt_of_le_of_lt Nat.and_le_left ha
  rw [fa_and, show (0 : Int32) = nI 0 from rfl, nI_eq (by omega) (by omega)]
  constructor
  · intro h
    have : (a &&& 2 ^ g).testBit g = false := by rw [h]; exact Nat.zero_testBit _
    rw [Nat.testBit_and, Nat.testBit_two_pow_self, Bool.and_true] at this
    exact this
  · intro h
    apply Nat.eq_of_testBit_eq
    intro i
    rw [Nat.testBit_and, Nat.testBit_two_pow, Nat.zero_testBit]
    by_cases e : g = i
    · rw [← e, h]; rfl
    · rw [decide_eq_false e, Bool.and_false]
/-- sets of changes that are as decided -/
def g_con (G dec ch X : Nat) : Prop := X < 2 ^ G ∧ ∀ k, dec.testBit k = true → X.testBit k = ch.testBit k
def g_sol (l : Nat → Nat → Nat) (P : Nat → List Nat) (O cur s fld dec ch n day : Nat) (row : Nat → Nat) (X : Nat) : Prop := g_con (l 0 1) dec ch X ∧ g_go l P (fun k => (O ^^^ X).testBit k) cur s n day row 0 = fld
def g_dc (G dec ch : Nat) : Prop := dec < 2 ^ G ∧ ∀ k, ch.testBit k = true → dec.testBit k = true
theorem g_dc_ch {G dec ch : Nat} (h : g_dc G dec ch) : ch < 2 ^ G := by
  apply Nat.lt_pow_two_of_testBit
  intro i hi
  cases hc : ch.testBit i
  · rfl
  · have h1 := h.2 i hc
    rw [Nat.testBit_lt_two_pow (Nat.lt_of_lt_of_le h.1 (Nat.pow_le_pow_right (n := 2) (by omega) hi))] at h1
    cases h1
theorem g_con_ch {G dec ch : Nat} (h : g_dc G dec ch) : g_con G dec ch ch := ⟨g_dc_ch h, fun _ _ => rfl⟩
theorem g_con_le {G dec ch X : Nat} (hG : G ≤ 10) (h : g_dc G dec ch) (hX : g_con G dec ch X) : g_le2 ch X := by
  have h2p : 2 ^ G ≤ 2 ^ 10 := Nat.pow_le_pow_right (by omega) hG
  have h1 := g_dc_ch h
  have h2 := hX.1
  exact g_pc_sub (by omega) (by omega) (fun k hk => by rw [hX.2 k (h.2 k hk)]; exact hk)
/-- a gap is decided -/
def g_chO (O g : Nat) : Nat := 2 ^ g &&& (1023 ^^^ O)
def g_chS (O g : Nat) : Nat := 2 ^ g &&& O
theorem g_chO_t {O g k : Nat} (hg : g < 10) : (g_chO O g).testBit k = (decide (g = k) && !O.testBit k) := by
  unfold g_chO
  rw [Nat.testBit_and, Nat.testBit_two_pow]
  by_cases e : g = k
  · rw [← e, g_not10 hg]
  · rw [decide_eq_false e, Bool.false_and, Bool.false_and]
theorem g_chS_t {O g k : Nat} : (g_chS O g).testBit k = (decide (g = k) && O.testBit k) := by
  unfold g_chS
  rw [Nat.testBit_and, Nat.testBit_two_pow]
theorem g_or2_t {a g k : Nat} : (a ||| 2 ^ g).testBit k = (a.testBit k || decide (g = k)) := by
  rw [Nat.testBit_or, Nat.testBit_two_pow]
theorem g_dc_O {G dec ch O g : Nat} (hG : G ≤ 10) (h : g_dc G dec ch) (hg : g < G) : g_dc G (dec ||| 2 ^ g) (ch ||| g_chO O g) := by
  refine ⟨Nat.or_lt_two_pow h.1 (Nat.pow_lt_pow_right (by omega) hg), fun k hk => ?_⟩
  rw [Nat.testBit_or, g_chO_t (by omega)] at hk
  rw [g_or2_t]
  cases hc : ch.testBit k
  · rw [hc, Bool.false_or] at hk
    rw [(pz_ba hk).1, Bool.or_true]
  · rw [h.2 k hc]; rfl
theorem g_dc_S {G dec ch O g : Nat} (h : g_dc G dec ch) (hg : g < G) : g_dc G (dec ||| 2 ^ g) (ch ||| g_chS O g) := by
  refine ⟨Nat.or_lt_two_pow h.1 (Nat.pow_lt_pow_right (by omega) hg), fun k hk => ?_⟩
  rw [Nat.testBit_or, g_chS_t] at hk
  rw [g_or2_t]
  cases hc : ch.testBit k
  · rw [hc, Bool.false_or] at hk
    rw [(pz_ba hk).1, Bool.or_true]
  · rw [h.2 k hc]; rfl
/-- those with the gap open, those with the gap shut -/
theorem g_con_O {G dec ch O g X : Nat} (hG : G ≤ 10) (h : g_dc G dec ch) (hg : g < G) (hn : dec.testBit g = false) : g_con G (dec ||| 2 ^ g) (ch ||| g_chO O g) X ↔ g_con G dec ch X ∧ (O ^^^ X).testBit g = true := by
  have hcg : ch.testBit g = false := by
    cases hc : ch.testBit g
    · rfl
    · rw [h.2 g hc] at hn; cases hn
  constructor
  · rintro ⟨h1, h2⟩
    have hgX := h2 g (by rw [g_or2_t, decide_eq_true rfl, Bool.or_true])
    rw [Nat.testBit_or, g_chO_t (by omega), hcg, decide_eq_true rfl] at hgX
    refine ⟨⟨h1, fun k hk => ?_⟩, by rw [Nat.testBit_xor, hgX]; cases O.testBit g <;> rfl⟩
    rw [h2 k (by rw [g_or2_t, hk]; rfl), Nat.testBit_or, g_chO_t (by omega)]
    by_cases e : g = k
    · rw [← e, hn] at hk; cases hk
    · rw [decide_eq_false e, Bool.false_and, Bool.or_false]
  · rintro ⟨⟨h1, h2⟩, h3⟩
    refine ⟨h1, fun k hk => ?_⟩
    rw [Nat.testBit_or, g_chO_t (by omega)]
    by_cases e : g = k
    · rw [← e, hcg, decide_eq_true rfl]
      rw [Nat.testBit_xor] at h3
      revert h3
      cases O.testBit g <;> cases X.testBit g <;> decide
    · rw [decide_eq_false e, Bool.false_and, Bool.or_false]
      rw [g_or2_t, decide_eq_false e, Bool.or_false] at hk
      exact h2 k hk
theorem g_con_S {G dec ch O g X : Nat} (h : g_dc G dec ch) (hn : dec.testBit g = false) : g_con G (dec ||| 2 ^ g) (ch ||| g_chS O g) X ↔ g_con G dec ch X ∧ (O ^^^ X).testBit g = false := by
  have hcg : ch.testBit g = false := by
    cases hc : ch.testBit g
    · rfl
    · rw [h.2 g hc] at hn; cases hn
  constructor
  · rintro ⟨h1, h2⟩
    have hgX := h2 g (by rw [g_or2_t, decide_eq_true rfl, Bool.or_true])
    rw [Nat.testBit_or, g_chS_t, hcg, decide_eq_true rfl] at hgX
    refine ⟨⟨h1, fun k hk => ?_⟩, by rw [Nat.testBit_xor, hgX]; cases O.testBit g <;> rfl⟩
    rw [h2 k (by rw [g_or2_t, hk]; rfl), Nat.testBit_or, g_chS_t]
    by_cases e : g = k
    · rw [← e, hn] at hk; cases hk
    · rw [decide_eq_false e, Bool.false_and, Bool.or_false]
  · rintro ⟨⟨h1, h2⟩, h3⟩
    refine ⟨h1, fun k hk => ?_⟩
    rw [Nat.testBit_or, g_chS_t]
    by_cases e : g = k
    · rw [← e, hcg, decide_eq_true rfl]
      rw [Nat.testBit_xor] at h3
      revert h3
      cases O.testBit g <;> cases X.testBit g <;> decide
    · rw [decide_eq_false e, Bool.false_and, Bool.or_false]
      rw [g_or2_t, decide_eq_false e, Bool.or_false] at hk
      exact h2 k hk
/-- where it is decided already that the gap is open nothing new is decided -/
theorem g_con_D {G dec ch O g X : Nat} (hG : G ≤ 10) (hg : g < G) (hn : dec.testBit g = true) (ho : (O.testBit g ^^ ch.testBit g) = true) : g_con G (dec ||| 2 ^ g) (ch ||| g_chO O g) X ↔ g_con G dec ch X := by
  have e1 : dec ||| 2 ^ g = dec := by
    apply Nat.eq_of_testBit_eq
    intro i
    rw [g_or2_t]
    by_cases e : g = i
    · rw [← e, hn]; rfl
    · rw [decide_eq_false e, Bool.or_false]
  have e2 : ch ||| g_chO O g = ch := by
    apply Nat.eq_of_testBit_eq
    intro i
    rw [Nat.testBit_or, g_chO_t (by omega)]
    by_cases e : g = i
    · rw [← e, decide_eq_true rfl]
      revert ho
      cases O.testBit g <;> cases ch.testBit g <;> decide
    · rw [decide_eq_false e, Bool.false_and, Bool.or_false]
  rw [e1, e2]
/-- the gaps that are left to lure -/
def g_rst (l : Nat → Nat → Nat) (O kn bt rest : Nat) (u : Nat → Int) : Prop := rest < 2 ^ l 0 1 ∧ (∀ k, k < l 0 1 → rest.testBit k = true → 0 < u k) ∧ (∀ k, k < l 0 1 → 0 < u k → rest.testBit k = false → kn.testBit k = true ∧ (O.testBit k ^^ bt.testBit k) = false) ∧ ∀ k, k < l 0 1 → rest.testBit k = true → kn.testBit k = true → (O.testBit k ^^ bt.testBit k) = true
theorem g_rst_shut {l : Nat → Nat → Nat} {O kn bt rest X k : Nat} {u : Nat → Int} (h : g_rst l O kn bt rest u) (hX : g_con (l 0 1) kn bt X) (hk : k < l 0 1) (hr : rest.testBit k = false) : (if (O ^^^ X).testBit k = true then u k else 0) ≤ 0 := by
  by_cases e : 0 < u k
  · obtain ⟨h1, h2⟩ := h.2.2.1 k hk e hr
    rw [if_neg (by rw [Nat.testBit_xor, hX.2 k h1, h2]; decide)]
    omega
  · split <;> omega
theorem g_rst_pick {l : Nat → Nat → Nat} {P : Nat → List Nat} {O kn bt rest X g day cur s : Nat} {row : Nat → Nat} (h : g_rst l O kn bt rest (g_pull l P (fun _ => true) day cur row s)) (hX : g_con (l 0 1) kn bt X) (hs : g_stays l P day cur row s = false) (hg : (g_best (fun j => if rest.testBit j = true then g_pull l P (fun _ => true) day cur row s j else 0) (l 0 1)).1 = some g) (ho : (O ^^^ X).testBit g = true) : g_choice l P (fun k => (O ^^^ X).testBit k) day cur row s = some g := by
  obtain ⟨h1, h2, h3, h4⟩ := (g_best_ch _ _ _).mp hg
  have hr : rest.testBit g = true := by
    cases e : rest.testBit g
    · (try dsimp only at h2)
      rw [e, if_neg (by decide)] at h2
      omega
    · rfl
  (try dsimp only at h2 h3 h4)
  rw [hr, if_pos rfl] at h2 h3 h4
  have key : ∀ j, j < l 0 1 → (if (O ^^^ X).testBit j = true then g_pull l P (fun _ => true) day cur row s j else 0) ≤ (if rest.testBit j = true then g_pull l P (fun _ => true) day cur row s j else 0) ∨ (if (O ^^^ X).testBit j = true then g_pull l P (fun _ => true) day cur row s j else 0) ≤ 0 := fun j hj => by
    cases e : rest.testBit j
    · exact Or.inr (g_rst_shut h hX hj e)
    · rw [if_pos rfl]
      have := h.2.1 j hj e
      split
      · exact Or.inl (Int.le_refl _)
      · exact Or.inr (Int.le_refl _)
  unfold g_choice
  rw [hs, if_neg (by decide), g_best_ch]
  have ep : ∀ j, g_pull l P (fun k => (O ^^^ X).testBit k) day cur row s j = (if (O ^^^ X).testBit j = true then g_pull l P (fun _ => true) day cur row s j else 0) := fun j => g_pull_u
  refine ⟨h1, by rw [ep, if_pos ho]; exact h2, fun j hj => ?_, fun j hj => ?_⟩
  · rw [ep, ep, if_pos ho]
    have a1 := h3 j hj
    have a2 := key j (by omega)
    omega
  · rw [ep, ep, if_pos ho]
    have a1 := h4 j hj
    have a2 := key j hj
    omega
theorem g_rst_none {l : Nat → Nat → Nat} {P : Nat → List Nat} {O kn bt X day cur s : Nat} {row : Nat → Nat} (h : g_stays l P day cur row s = true ∨ g_rst l O kn bt 0 (g_pull l P (fun _ => true) day cur row s)) (hX : g_con (l 0 1) kn bt X) : g_choice l P (fun k => (O ^^^ X).testBit k) day cur row s = none := by
  unfold g_choice
  by_cases hs : g_stays l P day cur row s = true
  · rw [if_pos hs]
  · rw [if_neg hs]
    rcases h with h | h
    · exact absurd h hs
    · refine g_best_no (fun j hj => ?_)
      rw [g_pull_u]
      exact g_rst_shut h hX hj (Nat.zero_testBit _)

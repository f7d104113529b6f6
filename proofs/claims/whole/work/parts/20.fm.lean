/-! The methods as functions over the store. -/
/-- fuel enough for every loop; no program may unfold it -/
theorem sw_fuelX : ∃ n : Nat, 1000000 ≤ n := ⟨1000000, Nat.le_refl _⟩
noncomputable def sw_fuel : Nat := Classical.choose sw_fuelX
theorem sw_fuel_ge : 1000000 ≤ sw_fuel := Classical.choose_spec sw_fuelX
def sw_depth : Nat := 60
def sw_inb (i : Int32) (n : Nat) : Bool := decide (¬ (i < 0 ∨ n ≤ i.toNatClampNeg))
theorem sw_inb_sp {i : Int32} {n : Nat} (h : sw_inb i n = true) : vp_in i n := by
  unfold sw_inb at h
  exact (of_decide_eq_true h : ¬ (i < 0 ∨ n ≤ i.toNatClampNeg))
theorem sw_ifs {α : Type} {c : Prop} [Decidable c] {x : Option α} {p : α} (h : (if c then x else none) = some p) : c ∧ x = some p := by
  split at h
  · next hc => exact ⟨hc, h⟩
  · cases h
theorem sw_bnd {α β : Type} {x : Option α} {f : α → Option β} {p : β} (h : x.bind f = some p) : ∃ v, x = some v ∧ f v = some p := by
  cases x with
  | none => cases h
  | some v => exact ⟨v, rfl, h⟩
def sw_pI (p : Int32 × sw_St) : Option Value → sw_St → Prop := fun r s => ∃ v, r = some (.int v) ∧ v = p.1 ∧ s = p.2
def sw_pL (p : Int64 × sw_St) : Option Value → sw_St → Prop := fun r s => ∃ v, r = some (.long v) ∧ v = p.1 ∧ s = p.2
def sw_pV (p : Unit × sw_St) : Option Value → sw_St → Prop := fun r s => r = none ∧ s = p.2
/-! StrayWoolModel.isIn(JJJ)Z -/
noncomputable def S_X11_isIn_18 (σ : sw_St) (sx0 : Int32) : Option (Int32 × sw_St) :=
  if sx0 = 0 ∨ sx0 = 1 then some (sx0, σ) else none
theorem SC_X11_isIn_18 {E : sw_E} {d : Nat} (hd : 0 ≤ d) {p : Int32 × sw_St} {σ : sw_St} {sx0 : Int32} (h : S_X11_isIn_18 σ sx0 = some p) : sw_W E sw_gM m_X11_isIn d 18 [] [.int sx0] σ (sw_pI p) := by
  unfold S_X11_isIn_18 at h
  obtain ⟨hz, h⟩ := sw_ifs h
  cases h
  exact B_X11_isIn_18  hz ⟨_, rfl, rfl, rfl⟩
noncomputable def S_X11_isIn_17 (σ : sw_St) : Option (Int32 × sw_St) :=
  S_X11_isIn_18 σ 0
theorem SC_X11_isIn_17 {E : sw_E} {d : Nat} (hd : 0 ≤ d) {p : Int32 × sw_St} {σ : sw_St} (h : S_X11_isIn_17 σ  = some p) : sw_W E sw_gM m_X11_isIn d 17 [] [] σ (sw_pI p) := by
  unfold S_X11_isIn_17 at h
  refine B_X11_isIn_17  ?_
  exact SC_X11_isIn_18 hd h
noncomputable def F_X11_isIn (σ : sw_St) (y0 : Int64) (y2 : Int64) (y4 : Int64) : Option (Int32 × sw_St) :=
  if (lg_cmp y0 y2) < 0 then (S_X11_isIn_17 σ ) else (if 0 < (lg_cmp y0 y4) then (S_X11_isIn_17 σ ) else (S_X11_isIn_18 σ 1))
theorem FC_X11_isIn {E : sw_E} {d : Nat} (hd : 0 ≤ d) {p : Int32 × sw_St} {σ : sw_St} {y0 : Int64} {y2 : Int64} {y4 : Int64} (h : F_X11_isIn σ y0 y2 y4 = some p) : sw_KI E sw_gM m_X11_isIn d [.long y0, .long y2, .long y4] σ (fun v s => v = p.1 ∧ s = p.2) := by
  unfold F_X11_isIn at h
  refine sw_K.of (by decide +kernel) rfl (Nat.le_of_ble_eq_true rfl) ?_
  show sw_W E sw_gM m_X11_isIn d 0 [(0, .long y0), (2, .long y2), (4, .long y4)] [] σ (sw_pI p)
  refine B_X11_isIn_0  (fun hc => ?_) (fun hc => ?_)
  · rw [if_pos hc] at h
    exact SC_X11_isIn_17 hd h
  · rw [if_neg hc] at h
    refine B_X11_isIn_6  (fun hc => ?_) (fun hc => ?_)
    · rw [if_pos hc] at h
      exact SC_X11_isIn_17 hd h
    · rw [if_neg hc] at h
      refine B_X11_isIn_13  ?_
      exact SC_X11_isIn_18 hd h
/-! StrayWoolModel.feed(IIIII)I -/
noncomputable def S_X11_feed_81 (c28 : sw_St → Int32 → Int32 → Int32 → Int32 → Int32 → Int32 → Option (Int32 × sw_St)) (σ : sw_St) (x1 : Int32) (x2 : Int32) (x3 : Int32) (x4 : Int32) (x5 : Int32) (x6 : Int32) (sx0 : Int32) : Option (Int32 × sw_St) :=
  if sw_inb (σ.1 0 1) 1600 = true then (c28 (sw_uI (sw_uI σ 1 ((σ.1 0 1).toNatClampNeg) ((sx0 >>> ((8 * (3 - (x6 - x6 / 4 * 4))) &&& 31)) &&& 255)) 0 1 ((σ.1 0 1) + 1)) x1 x2 x3 x4 x5 (x6 + 1)) else none
theorem SC_X11_feed_81 {E : sw_E} {d : Nat} (hd : 0 ≤ d) {p : Int32 × sw_St} {c28 : sw_St → Int32 → Int32 → Int32 → Int32 → Int32 → Int32 → Option (Int32 × sw_St)} (h28 : ∀ (σ : sw_St) (x1 : Int32) (x2 : Int32) (x3 : Int32) (x4 : Int32) (x5 : Int32) (x6 : Int32), c28 σ x1 x2 x3 x4 x5 x6 = some p → sw_W E sw_gM m_X11_feed d 28 [(0, .ref 0), (1, .int x1), (2, .int x2), (3, .int x3), (4, .int x4), (5, .int x5), (6, .int x6)] [] σ (sw_pI p)) {σ : sw_St} {x1 : Int32} {x2 : Int32} {x3 : Int32} {x4 : Int32} {x5 : Int32} {x6 : Int32} {sx0 : Int32} (h : S_X11_feed_81 c28 σ x1 x2 x3 x4 x5 x6 sx0 = some p) : sw_W E sw_gM m_X11_feed d 81 [(0, .ref 0), (1, .int x1), (2, .int x2), (3, .int x3), (4, .int x4), (5, .int x5), (6, .int x6)] [.int sx0] σ (sw_pI p) := by
  unfold S_X11_feed_81 at h
  obtain ⟨o1, h⟩ := sw_ifs h
  refine B_X11_feed_81 (sw_inb_sp o1) ?_
  exact h28 _ _ _ _ _ _ _ h
noncomputable def S_X11_feed_28 (c28 : sw_St → Int32 → Int32 → Int32 → Int32 → Int32 → Int32 → Option (Int32 × sw_St)) (σ : sw_St) (x1 : Int32) (x2 : Int32) (x3 : Int32) (x4 : Int32) (x5 : Int32) (x6 : Int32) : Option (Int32 × sw_St) :=
  if 20 ≤ x6 then (some (σ.1 0 1, σ)) else (if 4 ≤ x6 then (if 8 ≤ x6 then (if 12 ≤ x6 then (if 16 ≤ x6 then (S_X11_feed_81 c28 σ x1 x2 x3 x4 x5 x6 x5) else (S_X11_feed_81 c28 σ x1 x2 x3 x4 x5 x6 x4)) else (S_X11_feed_81 c28 σ x1 x2 x3 x4 x5 x6 x3)) else (S_X11_feed_81 c28 σ x1 x2 x3 x4 x5 x6 x2)) else (S_X11_feed_81 c28 σ x1 x2 x3 x4 x5 x6 x1))
theorem SC_X11_feed_28 {E : sw_E} {d : Nat} (hd : 0 ≤ d) {p : Int32 × sw_St} {c28 : sw_St → Int32 → Int32 → Int32 → Int32 → Int32 → Int32 → Option (Int32 × sw_St)} (h28 : ∀ (σ : sw_St) (x1 : Int32) (x2 : Int32) (x3 : Int32) (x4 : Int32) (x5 : Int32) (x6 : Int32), c28 σ x1 x2 x3 x4 x5 x6 = some p → sw_W E sw_gM m_X11_feed d 28 [(0, .ref 0), (1, .int x1), (2, .int x2), (3, .int x3), (4, .int x4), (5, .int x5), (6, .int x6)] [] σ (sw_pI p)) {σ : sw_St} {x1 : Int32} {x2 : Int32} {x3 : Int32} {x4 : Int32} {x5 : Int32} {x6 : Int32} (h : S_X11_feed_28 c28 σ x1 x2 x3 x4 x5 x6 = some p) : sw_W E sw_gM m_X11_feed d 28 [(0, .ref 0), (1, .int x1), (2, .int x2), (3, .int x3), (4, .int x4), (5, .int x5), (6, .int x6)] [] σ (sw_pI p) := by
  unfold S_X11_feed_28 at h
  refine B_X11_feed_28  (fun hc => ?_) (fun hc => ?_)
  · rw [if_pos hc] at h
    cases h
    exact B_X11_feed_124  ⟨_, rfl, rfl, rfl⟩
  · rw [if_neg hc] at h
    refine B_X11_feed_35  (fun hc => ?_) (fun hc => ?_)
    · rw [if_pos hc] at h
      refine B_X11_feed_45  (fun hc => ?_) (fun hc => ?_)
      · rw [if_pos hc] at h
        refine B_X11_feed_56  (fun hc => ?_) (fun hc => ?_)
        · rw [if_pos hc] at h
          refine B_X11_feed_67  (fun hc => ?_) (fun hc => ?_)
          · rw [if_pos hc] at h
            refine B_X11_feed_79  ?_
            exact SC_X11_feed_81 hd h28 h
          · rw [if_neg hc] at h
            refine B_X11_feed_74  ?_
            exact SC_X11_feed_81 hd h28 h
        · rw [if_neg hc] at h
          refine B_X11_feed_63  ?_
          exact SC_X11_feed_81 hd h28 h
      · rw [if_neg hc] at h
        refine B_X11_feed_52  ?_
        exact SC_X11_feed_81 hd h28 h
    · rw [if_neg hc] at h
      refine B_X11_feed_41  ?_
      exact SC_X11_feed_81 hd h28 h
noncomputable def L_X11_feed_28 : Nat → sw_St → Int32 → Int32 → Int32 → Int32 → Int32 → Int32 → Option (Int32 × sw_St)
  | 0, _, _, _, _, _, _, _ => none
  | k + 1, σ, x1, x2, x3, x4, x5, x6 => S_X11_feed_28 (fun σ x1 x2 x3 x4 x5 x6 => L_X11_feed_28 k σ x1 x2 x3 x4 x5 x6) σ x1 x2 x3 x4 x5 x6
theorem LC_X11_feed_28 {E : sw_E} {d : Nat} (hd : 0 ≤ d) {p : Int32 × sw_St} : ∀ (k : Nat) (σ : sw_St) (x1 : Int32) (x2 : Int32) (x3 : Int32) (x4 : Int32) (x5 : Int32) (x6 : Int32), L_X11_feed_28 k σ x1 x2 x3 x4 x5 x6 = some p → sw_W E sw_gM m_X11_feed d 28 [(0, .ref 0), (1, .int x1), (2, .int x2), (3, .int x3), (4, .int x4), (5, .int x5), (6, .int x6)] [] σ (sw_pI p) := by
  intro k
  induction k with
  | zero => intro σ x1 x2 x3 x4 x5 x6 h; cases h
  | succ k ih => intro σ x1 x2 x3 x4 x5 x6 h; exact SC_X11_feed_28 hd ih h
noncomputable def F_X11_feed (σ : sw_St) (x1 : Int32) (x2 : Int32) (x3 : Int32) (x4 : Int32) (x5 : Int32) : Option (Int32 × sw_St) :=
  if ((σ.1 0 1) + 20) ≤ 1600 then (L_X11_feed_28 sw_fuel σ x1 x2 x3 x4 x5 0) else (some ((-1), (sw_uI σ 2 0 ((σ.1 2 0) + 1))))
theorem FC_X11_feed {E : sw_E} {d : Nat} (hd : 0 ≤ d) {p : Int32 × sw_St} {σ : sw_St} {x1 : Int32} {x2 : Int32} {x3 : Int32} {x4 : Int32} {x5 : Int32} (h : F_X11_feed σ x1 x2 x3 x4 x5 = some p) : sw_KI E sw_gM m_X11_feed d [.ref 0, .int x1, .int x2, .int x3, .int x4, .int x5] σ (fun v s => v = p.1 ∧ s = p.2) := by
  unfold F_X11_feed at h
  refine sw_K.of (by decide +kernel) rfl (Nat.le_of_ble_eq_true rfl) ?_
  show sw_W E sw_gM m_X11_feed d 0 [(0, .ref 0), (1, .int x1), (2, .int x2), (3, .int x3), (4, .int x4), (5, .int x5)] [] σ (sw_pI p)
  refine B_X11_feed_0  (fun hc => ?_) (fun hc => ?_)
  · rw [if_pos hc] at h
    refine B_X11_feed_25  ?_
    exact LC_X11_feed_28 hd _ _ _ _ _ _ _ _ h
  · rw [if_neg hc] at h
    cases h
    exact B_X11_feed_13  ⟨_, rfl, rfl, rfl⟩
/-! StrayWoolModel.end(I)Z -/
noncomputable def S_X11_end_12 (σ : sw_St) : Option (Int32 × sw_St) :=
  some (0, (sw_uI σ 2 0 ((σ.1 2 0) + 1)))
theorem SC_X11_end_12 {E : sw_E} {d : Nat} (hd : 0 ≤ d) {p : Int32 × sw_St} {σ : sw_St} (h : S_X11_end_12 σ  = some p) : sw_W E sw_gM m_X11_end d 12 [(0, .ref 0)] [] σ (sw_pI p) := by
  unfold S_X11_end_12 at h
  cases h
  exact B_X11_end_12  ⟨_, rfl, rfl, rfl⟩
noncomputable def F_X11_end (σ : sw_St) (x1 : Int32) : Option (Int32 × sw_St) :=
  if x1 < 0 then (S_X11_end_12 σ ) else (if x1 ≤ (σ.1 0 1) then (some (1, (sw_uI σ 0 1 x1))) else (S_X11_end_12 σ ))
theorem FC_X11_end {E : sw_E} {d : Nat} (hd : 0 ≤ d) {p : Int32 × sw_St} {σ : sw_St} {x1 : Int32} (h : F_X11_end σ x1 = some p) : sw_KI E sw_gM m_X11_end d [.ref 0, .int x1] σ (fun v s => v = p.1 ∧ s = p.2) := by
  unfold F_X11_end at h
  refine sw_K.of (by decide +kernel) rfl (Nat.le_of_ble_eq_true rfl) ?_
  show sw_W E sw_gM m_X11_end d 0 [(0, .ref 0), (1, .int x1)] [] σ (sw_pI p)
  refine B_X11_end_0  (fun hc => ?_) (fun hc => ?_)
  · rw [if_pos hc] at h
    exact SC_X11_end_12 hd h
  · rw [if_neg hc] at h
    refine B_X11_end_4  (fun hc => ?_) (fun hc => ?_)
    · rw [if_pos hc] at h
      cases h
      exact B_X11_end_24  ⟨_, rfl, rfl, rfl⟩
    · rw [if_neg hc] at h
      exact SC_X11_end_12 hd h
/-! StrayWoolModel.fail(II)V -/
noncomputable def F_X11_fail (σ : sw_St) (x1 : Int32) (x2 : Int32) : Option (Unit × sw_St) :=
  if (σ.1 0 5) = 0 then (some ((), (sw_uI (sw_uI σ 0 5 x1) 0 6 x2))) else (some ((), σ))
theorem FC_X11_fail {E : sw_E} {d : Nat} (hd : 0 ≤ d) {p : Unit × sw_St} {σ : sw_St} {x1 : Int32} {x2 : Int32} (h : F_X11_fail σ x1 x2 = some p) : sw_KV E sw_gM m_X11_fail d [.ref 0, .int x1, .int x2] σ (fun s => s = p.2) := by
  unfold F_X11_fail at h
  refine sw_K.of (by decide +kernel) rfl (Nat.le_of_ble_eq_true rfl) ?_
  show sw_W E sw_gM m_X11_fail d 0 [(0, .ref 0), (1, .int x1), (2, .int x2)] [] σ (sw_pV p)
  refine B_X11_fail_0  (fun hc => ?_) (fun hc => ?_)
  · rw [if_pos hc] at h
    cases h
    exact B_X11_fail_8  ⟨rfl, rfl⟩
  · rw [if_neg hc] at h
    cases h
    exact B_X11_fail_7  ⟨rfl, rfl⟩
/-! StrayWoolModel.isLetter(I)Z -/
noncomputable def S_X11_isLetter_17 (σ : sw_St) (sx0 : Int32) : Option (Int32 × sw_St) :=
  if sx0 = 0 ∨ sx0 = 1 then some (sx0, σ) else none
theorem SC_X11_isLetter_17 {E : sw_E} {d : Nat} (hd : 0 ≤ d) {p : Int32 × sw_St} {σ : sw_St} {sx0 : Int32} (h : S_X11_isLetter_17 σ sx0 = some p) : sw_W E sw_gM m_X11_isLetter d 17 [] [.int sx0] σ (sw_pI p) := by
  unfold S_X11_isLetter_17 at h
  obtain ⟨hz, h⟩ := sw_ifs h
  cases h
  exact B_X11_isLetter_17  hz ⟨_, rfl, rfl, rfl⟩
noncomputable def S_X11_isLetter_16 (σ : sw_St) : Option (Int32 × sw_St) :=
  S_X11_isLetter_17 σ 0
theorem SC_X11_isLetter_16 {E : sw_E} {d : Nat} (hd : 0 ≤ d) {p : Int32 × sw_St} {σ : sw_St} (h : S_X11_isLetter_16 σ  = some p) : sw_W E sw_gM m_X11_isLetter d 16 [] [] σ (sw_pI p) := by
  unfold S_X11_isLetter_16 at h
  refine B_X11_isLetter_16  ?_
  exact SC_X11_isLetter_17 hd h
noncomputable def F_X11_isLetter (σ : sw_St) (x0 : Int32) : Option (Int32 × sw_St) :=
  if x0 < 97 then (S_X11_isLetter_16 σ ) else (if 122 < x0 then (S_X11_isLetter_16 σ ) else (S_X11_isLetter_17 σ 1))
theorem FC_X11_isLetter {E : sw_E} {d : Nat} (hd : 0 ≤ d) {p : Int32 × sw_St} {σ : sw_St} {x0 : Int32} (h : F_X11_isLetter σ x0 = some p) : sw_KI E sw_gM m_X11_isLetter d [.int x0] σ (fun v s => v = p.1 ∧ s = p.2) := by
  unfold F_X11_isLetter at h
  refine sw_K.of (by decide +kernel) rfl (Nat.le_of_ble_eq_true rfl) ?_
  show sw_W E sw_gM m_X11_isLetter d 0 [(0, .int x0)] [] σ (sw_pI p)
  refine B_X11_isLetter_0  (fun hc => ?_) (fun hc => ?_)
  · rw [if_pos hc] at h
    exact SC_X11_isLetter_16 hd h
  · rw [if_neg hc] at h
    refine B_X11_isLetter_6  (fun hc => ?_) (fun hc => ?_)
    · rw [if_pos hc] at h
      exact SC_X11_isLetter_16 hd h
    · rw [if_neg hc] at h
      refine B_X11_isLetter_12  ?_
      exact SC_X11_isLetter_17 hd h
/-! StrayWoolModel.isDigit(I)Z -/
noncomputable def S_X11_isDigit_17 (σ : sw_St) (sx0 : Int32) : Option (Int32 × sw_St) :=
  if sx0 = 0 ∨ sx0 = 1 then some (sx0, σ) else none
theorem SC_X11_isDigit_17 {E : sw_E} {d : Nat} (hd : 0 ≤ d) {p : Int32 × sw_St} {σ : sw_St} {sx0 : Int32} (h : S_X11_isDigit_17 σ sx0 = some p) : sw_W E sw_gM m_X11_isDigit d 17 [] [.int sx0] σ (sw_pI p) := by
  unfold S_X11_isDigit_17 at h
  obtain ⟨hz, h⟩ := sw_ifs h
  cases h
  exact B_X11_isDigit_17  hz ⟨_, rfl, rfl, rfl⟩
noncomputable def S_X11_isDigit_16 (σ : sw_St) : Option (Int32 × sw_St) :=
  S_X11_isDigit_17 σ 0
theorem SC_X11_isDigit_16 {E : sw_E} {d : Nat} (hd : 0 ≤ d) {p : Int32 × sw_St} {σ : sw_St} (h : S_X11_isDigit_16 σ  = some p) : sw_W E sw_gM m_X11_isDigit d 16 [] [] σ (sw_pI p) := by
  unfold S_X11_isDigit_16 at h
  refine B_X11_isDigit_16  ?_
  exact SC_X11_isDigit_17 hd h
noncomputable def F_X11_isDigit (σ : sw_St) (x0 : Int32) : Option (Int32 × sw_St) :=
  if x0 < 48 then (S_X11_isDigit_16 σ ) else (if 57 < x0 then (S_X11_isDigit_16 σ ) else (S_X11_isDigit_17 σ 1))
theorem FC_X11_isDigit {E : sw_E} {d : Nat} (hd : 0 ≤ d) {p : Int32 × sw_St} {σ : sw_St} {x0 : Int32} (h : F_X11_isDigit σ x0 = some p) : sw_KI E sw_gM m_X11_isDigit d [.int x0] σ (fun v s => v = p.1 ∧ s = p.2) := by
  unfold F_X11_isDigit at h
  refine sw_K.of (by decide +kernel) rfl (Nat.le_of_ble_eq_true rfl) ?_
  show sw_W E sw_gM m_X11_isDigit d 0 [(0, .int x0)] [] σ (sw_pI p)
  refine B_X11_isDigit_0  (fun hc => ?_) (fun hc => ?_)
  · rw [if_pos hc] at h
    exact SC_X11_isDigit_16 hd h
  · rw [if_neg hc] at h
    refine B_X11_isDigit_6  (fun hc => ?_) (fun hc => ?_)
    · rw [if_pos hc] at h
      exact SC_X11_isDigit_16 hd h
    · rw [if_neg hc] at h
      refine B_X11_isDigit_12  ?_
      exact SC_X11_isDigit_17 hd h
/-! StrayWoolModel.look()I -/
noncomputable def S_X11_look_76 (σ : sw_St) (sx0 : Int32) : Option (Int32 × sw_St) :=
  some (sx0, σ)
theorem SC_X11_look_76 {E : sw_E} {d : Nat} (hd : 0 ≤ d) {p : Int32 × sw_St} {σ : sw_St} {sx0 : Int32} (h : S_X11_look_76 σ sx0 = some p) : sw_W E sw_gM m_X11_look d 76 [] [.int sx0] σ (sw_pI p) := by
  unfold S_X11_look_76 at h
  cases h
  exact B_X11_look_76  ⟨_, rfl, rfl, rfl⟩
noncomputable def S_X11_look_52 (σ : sw_St) : Option (Int32 × sw_St) :=
  if (σ.1 0 3) ≤ (σ.1 0 2) then (S_X11_look_76 σ (-1)) else (if sw_inb (σ.1 0 2) 1600 = true then (S_X11_look_76 σ (σ.1 1 ((σ.1 0 2).toNatClampNeg))) else none)
theorem SC_X11_look_52 {E : sw_E} {d : Nat} (hd : 0 ≤ d) {p : Int32 × sw_St} {σ : sw_St} (h : S_X11_look_52 σ  = some p) : sw_W E sw_gM m_X11_look d 52 [(0, .ref 0)] [] σ (sw_pI p) := by
  unfold S_X11_look_52 at h
  refine B_X11_look_52  (fun hc => ?_) (fun hc => ?_)
  · rw [if_pos hc] at h
    refine B_X11_look_75  ?_
    exact SC_X11_look_76 hd h
  · rw [if_neg hc] at h
    obtain ⟨o1, h⟩ := sw_ifs h
    refine B_X11_look_63 (sw_inb_sp o1) ?_
    exact SC_X11_look_76 hd h
noncomputable def S_X11_look_39 (c0 : sw_St → Option (Int32 × sw_St)) (σ : sw_St) : Option (Int32 × sw_St) :=
  c0 (sw_uI σ 0 2 ((σ.1 0 2) + 1)) 
theorem SC_X11_look_39 {E : sw_E} {d : Nat} (hd : 0 ≤ d) {p : Int32 × sw_St} {c0 : sw_St → Option (Int32 × sw_St)} (h0 : ∀ (σ : sw_St), c0 σ  = some p → sw_W E sw_gM m_X11_look d 0 [(0, .ref 0)] [] σ (sw_pI p)) {σ : sw_St} (h : S_X11_look_39 c0 σ  = some p) : sw_W E sw_gM m_X11_look d 39 [(0, .ref 0)] [] σ (sw_pI p) := by
  unfold S_X11_look_39 at h
  refine B_X11_look_39  ?_
  exact h0 _  h
noncomputable def S_X11_look_0 (c0 : sw_St → Option (Int32 × sw_St)) (σ : sw_St) : Option (Int32 × sw_St) :=
  if (σ.1 0 3) ≤ (σ.1 0 2) then (S_X11_look_52 σ ) else (if sw_inb (σ.1 0 2) 1600 = true then (if (σ.1 1 ((σ.1 0 2).toNatClampNeg)) = 10 then (S_X11_look_39 c0 σ ) else (if sw_inb (σ.1 0 2) 1600 = true then (if (σ.1 1 ((σ.1 0 2).toNatClampNeg)) = 32 then (S_X11_look_39 c0 σ ) else (S_X11_look_52 σ )) else none)) else none)
theorem SC_X11_look_0 {E : sw_E} {d : Nat} (hd : 0 ≤ d) {p : Int32 × sw_St} {c0 : sw_St → Option (Int32 × sw_St)} (h0 : ∀ (σ : sw_St), c0 σ  = some p → sw_W E sw_gM m_X11_look d 0 [(0, .ref 0)] [] σ (sw_pI p)) {σ : sw_St} (h : S_X11_look_0 c0 σ  = some p) : sw_W E sw_gM m_X11_look d 0 [(0, .ref 0)] [] σ (sw_pI p) := by
  unfold S_X11_look_0 at h
  refine B_X11_look_0  (fun hc => ?_) (fun hc => ?_)
  · rw [if_pos hc] at h
    exact SC_X11_look_52 hd h
  · rw [if_neg hc] at h
    obtain ⟨o1, h⟩ := sw_ifs h
    refine B_X11_look_11 (sw_inb_sp o1) (fun hc => ?_) (fun hc => ?_)
    · rw [if_pos hc] at h
      exact SC_X11_look_39 hd h0 h
    · rw [if_neg hc] at h
      obtain ⟨o2, h⟩ := sw_ifs h
      refine B_X11_look_25 (sw_inb_sp o2) (fun hc => ?_) (fun hc => ?_)
      · rw [if_neg hc] at h
        exact SC_X11_look_52 hd h
      · rw [if_pos hc] at h
        exact SC_X11_look_39 hd h0 h
noncomputable def L_X11_look_0 : Nat → sw_St → Option (Int32 × sw_St)
  | 0, _ => none
  | k + 1, σ => S_X11_look_0 (fun σ => L_X11_look_0 k σ ) σ 
theorem LC_X11_look_0 {E : sw_E} {d : Nat} (hd : 0 ≤ d) {p : Int32 × sw_St} : ∀ (k : Nat) (σ : sw_St), L_X11_look_0 k σ  = some p → sw_W E sw_gM m_X11_look d 0 [(0, .ref 0)] [] σ (sw_pI p) := by
  intro k
  induction k with
  | zero => intro σ h; cases h
  | succ k ih => intro σ h; exact SC_X11_look_0 hd ih h
noncomputable def F_X11_look (σ : sw_St) : Option (Int32 × sw_St) :=
  L_X11_look_0 sw_fuel σ 
theorem FC_X11_look {E : sw_E} {d : Nat} (hd : 0 ≤ d) {p : Int32 × sw_St} {σ : sw_St} (h : F_X11_look σ  = some p) : sw_KI E sw_gM m_X11_look d [.ref 0] σ (fun v s => v = p.1 ∧ s = p.2) := by
  unfold F_X11_look at h
  refine sw_K.of (by decide +kernel) rfl (Nat.le_of_ble_eq_true rfl) ?_
  show sw_W E sw_gM m_X11_look d 0 [(0, .ref 0)] [] σ (sw_pI p)
  exact LC_X11_look_0 hd _ _  h
/-! StrayWoolModel.isHere([C)Z -/
noncomputable def S_X11_isHere_28 (σ : sw_St) : Option (Int32 × sw_St) :=
  some (0, σ)
theorem SC_X11_isHere_28 {E : sw_E} {d : Nat} (hd : 1 ≤ d) {p : Int32 × sw_St} {σ : sw_St} (h : S_X11_isHere_28 σ  = some p) : sw_W E sw_gM m_X11_isHere d 28 [] [] σ (sw_pI p) := by
  unfold S_X11_isHere_28 at h
  cases h
  exact B_X11_isHere_28  ⟨_, rfl, rfl, rfl⟩
noncomputable def S_X11_isHere_76 (c76 : sw_St → Nat → Int32 → Option (Int32 × sw_St)) (σ : sw_St) (o1 : Nat) (x3 : Int32) : Option (Int32 × sw_St) :=
  if (sw_isA sw_gM o1 0 || sw_isA sw_gM o1 1 || sw_isA sw_gM o1 2 || sw_isA sw_gM o1 3) = true then (if (nI (sw_ln sw_gM o1)) ≤ x3 then (some (1, σ)) else (if sw_inb ((σ.1 0 2) + x3) 1600 = true then (if sw_isA sw_gM o1 2 = true then (if sw_inb x3 (sw_ln sw_gM o1) = true then (if (σ.1 1 (((σ.1 0 2) + x3).toNatClampNeg)) = (σ.1 o1 x3.toNatClampNeg) then (c76 σ o1 (x3 + 1)) else (some (0, σ))) else none) else none) else none)) else none
theorem SC_X11_isHere_76 {E : sw_E} {d : Nat} (hd : 1 ≤ d) {p : Int32 × sw_St} {c76 : sw_St → Nat → Int32 → Option (Int32 × sw_St)} (h76 : ∀ (σ : sw_St) (o1 : Nat) (x3 : Int32), c76 σ o1 x3 = some p → sw_W E sw_gM m_X11_isHere d 76 [(0, .ref 0), (1, .ref o1), (3, .int x3)] [] σ (sw_pI p)) {σ : sw_St} {o1 : Nat} {x3 : Int32} (h : S_X11_isHere_76 c76 σ o1 x3 = some p) : sw_W E sw_gM m_X11_isHere d 76 [(0, .ref 0), (1, .ref o1), (3, .int x3)] [] σ (sw_pI p) := by
  unfold S_X11_isHere_76 at h
  obtain ⟨o1, h⟩ := sw_ifs h
  refine B_X11_isHere_76 o1 (fun hc => ?_) (fun hc => ?_)
  · rw [if_pos hc] at h
    cases h
    exact B_X11_isHere_107  ⟨_, rfl, rfl, rfl⟩
  · rw [if_neg hc] at h
    obtain ⟨o2, h⟩ := sw_ifs h
    obtain ⟨o3, h⟩ := sw_ifs h
    obtain ⟨o4, h⟩ := sw_ifs h
    refine B_X11_isHere_82 (sw_inb_sp o2) o3 (sw_inb_sp o4) (fun hc => ?_) (fun hc => ?_)
    · rw [if_pos hc] at h
      refine B_X11_isHere_101  ?_
      exact h76 _ _ _ h
    · rw [if_neg hc] at h
      cases h
      exact B_X11_isHere_99  ⟨_, rfl, rfl, rfl⟩
noncomputable def L_X11_isHere_76 : Nat → sw_St → Nat → Int32 → Option (Int32 × sw_St)
  | 0, _, _, _ => none
  | k + 1, σ, o1, x3 => S_X11_isHere_76 (fun σ o1 x3 => L_X11_isHere_76 k σ o1 x3) σ o1 x3
theorem LC_X11_isHere_76 {E : sw_E} {d : Nat} (hd : 1 ≤ d) {p : Int32 × sw_St} : ∀ (k : Nat) (σ : sw_St) (o1 : Nat) (x3 : Int32), L_X11_isHere_76 k σ o1 x3 = some p → sw_W E sw_gM m_X11_isHere d 76 [(0, .ref 0), (1, .ref o1), (3, .int x3)] [] σ (sw_pI p) := by
  intro k
  induction k with
  | zero => intro σ o1 x3 h; cases h
  | succ k ih => intro σ o1 x3 h; exact SC_X11_isHere_76 hd ih h
noncomputable def S_X11_isHere_61 (σ : sw_St) (o1 : Nat) (x2 : Int32) : Option (Int32 × sw_St) :=
  if (sw_isA sw_gM o1 0 || sw_isA sw_gM o1 1 || sw_isA sw_gM o1 2 || sw_isA sw_gM o1 3) = true then (if (x2 - (σ.1 0 2)) = (nI (sw_ln sw_gM o1)) then (L_X11_isHere_76 sw_fuel σ o1 0) else (some (0, σ))) else none
theorem SC_X11_isHere_61 {E : sw_E} {d : Nat} (hd : 1 ≤ d) {p : Int32 × sw_St} {σ : sw_St} {o1 : Nat} {x2 : Int32} (h : S_X11_isHere_61 σ o1 x2 = some p) : sw_W E sw_gM m_X11_isHere d 61 [(0, .ref 0), (1, .ref o1), (2, .int x2)] [] σ (sw_pI p) := by
  unfold S_X11_isHere_61 at h
  obtain ⟨o1, h⟩ := sw_ifs h
  refine B_X11_isHere_61 o1 (fun hc => ?_) (fun hc => ?_)
  · rw [if_pos hc] at h
    refine B_X11_isHere_74  ?_
    exact LC_X11_isHere_76 hd _ _ _ _ h
  · rw [if_neg hc] at h
    cases h
    exact B_X11_isHere_72  ⟨_, rfl, rfl, rfl⟩
noncomputable def S_X11_isHere_35 (c35 : sw_St → Nat → Int32 → Option (Int32 × sw_St)) (σ : sw_St) (o1 : Nat) (x2 : Int32) : Option (Int32 × sw_St) :=
  if (σ.1 0 3) ≤ x2 then (S_X11_isHere_61 σ o1 x2) else (if sw_inb x2 1600 = true then ((F_X11_isLetter σ (σ.1 1 x2.toNatClampNeg)).bind fun q2 => if q2.1 = 0 then (S_X11_isHere_61 q2.2 o1 x2) else (c35 q2.2 o1 (x2 + 1))) else none)
theorem SC_X11_isHere_35 {E : sw_E} {d : Nat} (hd : 1 ≤ d) {p : Int32 × sw_St} {c35 : sw_St → Nat → Int32 → Option (Int32 × sw_St)} (h35 : ∀ (σ : sw_St) (o1 : Nat) (x2 : Int32), c35 σ o1 x2 = some p → sw_W E sw_gM m_X11_isHere d 35 [(0, .ref 0), (1, .ref o1), (2, .int x2)] [] σ (sw_pI p)) {σ : sw_St} {o1 : Nat} {x2 : Int32} (h : S_X11_isHere_35 c35 σ o1 x2 = some p) : sw_W E sw_gM m_X11_isHere d 35 [(0, .ref 0), (1, .ref o1), (2, .int x2)] [] σ (sw_pI p) := by
  unfold S_X11_isHere_35 at h
  refine B_X11_isHere_35  (fun hc => ?_) (fun hc => ?_)
  · rw [if_pos hc] at h
    exact SC_X11_isHere_61 hd h
  · rw [if_neg hc] at h
    obtain ⟨o1, h⟩ := sw_ifs h
    obtain ⟨q2, hq, h⟩ := sw_bnd h
    refine B_X11_isHere_43 (sw_inb_sp o1) (FC_X11_isLetter (Nat.le_refl _) hq) (Nat.lt_of_lt_of_le (by decide) hd) (fun v s hvs => ?_)
    obtain ⟨hv1, hv2⟩ := hvs; subst hv1; subst hv2
    refine B_X11_isHere_52  (fun hc => ?_) (fun hc => ?_)
    · rw [if_pos hc] at h
      exact SC_X11_isHere_61 hd h
    · rw [if_neg hc] at h
      refine B_X11_isHere_55  ?_
      exact h35 _ _ _ h
noncomputable def L_X11_isHere_35 : Nat → sw_St → Nat → Int32 → Option (Int32 × sw_St)
  | 0, _, _, _ => none
  | k + 1, σ, o1, x2 => S_X11_isHere_35 (fun σ o1 x2 => L_X11_isHere_35 k σ o1 x2) σ o1 x2
theorem LC_X11_isHere_35 {E : sw_E} {d : Nat} (hd : 1 ≤ d) {p : Int32 × sw_St} : ∀ (k : Nat) (σ : sw_St) (o1 : Nat) (x2 : Int32), L_X11_isHere_35 k σ o1 x2 = some p → sw_W E sw_gM m_X11_isHere d 35 [(0, .ref 0), (1, .ref o1), (2, .int x2)] [] σ (sw_pI p) := by
  intro k
  induction k with
  | zero => intro σ o1 x2 h; cases h
  | succ k ih => intro σ o1 x2 h; exact SC_X11_isHere_35 hd ih h
noncomputable def F_X11_isHere (σ : sw_St) (o1 : Nat) : Option (Int32 × sw_St) :=
  if (σ.1 0 5) = 0 then ((F_X11_look σ ).bind fun q1 => (F_X11_isLetter q1.2 q1.1).bind fun q2 => if q2.1 = 0 then (S_X11_isHere_28 q2.2 ) else (if (q2.2.1 0 2) = (q2.2.1 0 4) then (S_X11_isHere_28 q2.2 ) else (L_X11_isHere_35 sw_fuel q2.2 o1 (q2.2.1 0 2)))) else (S_X11_isHere_28 σ )
theorem FC_X11_isHere {E : sw_E} {d : Nat} (hd : 1 ≤ d) {p : Int32 × sw_St} {σ : sw_St} {o1 : Nat} (h : F_X11_isHere σ o1 = some p) : sw_KI E sw_gM m_X11_isHere d [.ref 0, .ref o1] σ (fun v s => v = p.1 ∧ s = p.2) := by
  unfold F_X11_isHere at h
  refine sw_K.of (by decide +kernel) rfl (Nat.le_of_ble_eq_true rfl) ?_
  show sw_W E sw_gM m_X11_isHere d 0 [(0, .ref 0), (1, .ref o1)] [] σ (sw_pI p)
  refine B_X11_isHere_0  (fun hc => ?_) (fun hc => ?_)
  · rw [if_neg hc] at h
    exact SC_X11_isHere_28 hd h
  · rw [if_pos hc] at h
    obtain ⟨q1, hq, h⟩ := sw_bnd h
    refine B_X11_isHere_7  (FC_X11_look (Nat.le_refl _) hq) (Nat.lt_of_lt_of_le (by decide) hd) (fun v s hvs => ?_)
    obtain ⟨hv1, hv2⟩ := hvs; subst hv1; subst hv2
    obtain ⟨q2, hq, h⟩ := sw_bnd h
    refine B_X11_isHere_11  (FC_X11_isLetter (Nat.le_refl _) hq) (Nat.lt_of_lt_of_le (by decide) hd) (fun v s hvs => ?_)
    obtain ⟨hv1, hv2⟩ := hvs; subst hv1; subst hv2
    refine B_X11_isHere_14  (fun hc => ?_) (fun hc => ?_)
    · rw [if_pos hc] at h
      exact SC_X11_isHere_28 hd h
    · rw [if_neg hc] at h
      refine B_X11_isHere_17  (fun hc => ?_) (fun hc => ?_)
      · rw [if_neg hc] at h
        refine B_X11_isHere_30  ?_
        exact LC_X11_isHere_35 hd _ _ _ _ h
      · rw [if_pos hc] at h
        exact SC_X11_isHere_28 hd h
/-! StrayWoolModel.takes([C)Z -/
noncomputable def F_X11_takes (σ : sw_St) (o1 : Nat) : Option (Int32 × sw_St) :=
  (F_X11_isHere σ o1).bind fun q1 => if q1.1 = 0 then (some (0, q1.2)) else (if (sw_isA sw_gM o1 0 || sw_isA sw_gM o1 1 || sw_isA sw_gM o1 2 || sw_isA sw_gM o1 3) = true then (some (1, (sw_uI (sw_uI q1.2 0 2 ((q1.2.1 0 2) + (nI (sw_ln sw_gM o1)))) 0 4 ((q1.2.1 0 2) + (nI (sw_ln sw_gM o1)))))) else none)
theorem FC_X11_takes {E : sw_E} {d : Nat} (hd : 2 ≤ d) {p : Int32 × sw_St} {σ : sw_St} {o1 : Nat} (h : F_X11_takes σ o1 = some p) : sw_KI E sw_gM m_X11_takes d [.ref 0, .ref o1] σ (fun v s => v = p.1 ∧ s = p.2) := by
  unfold F_X11_takes at h
  refine sw_K.of (by decide +kernel) rfl (Nat.le_of_ble_eq_true rfl) ?_
  show sw_W E sw_gM m_X11_takes d 0 [(0, .ref 0), (1, .ref o1)] [] σ (sw_pI p)
  obtain ⟨q1, hq, h⟩ := sw_bnd h
  refine B_X11_takes_0  (FC_X11_isHere (Nat.le_refl _) hq) (Nat.lt_of_lt_of_le (by decide) hd) (fun v s hvs => ?_)
  obtain ⟨hv1, hv2⟩ := hvs; subst hv1; subst hv2
  refine B_X11_takes_5  (fun hc => ?_) (fun hc => ?_)
  · rw [if_neg hc] at h
    obtain ⟨o2, h⟩ := sw_ifs h
    cases h
    exact B_X11_takes_10 o2 ⟨_, rfl, rfl, rfl⟩
  · rw [if_pos hc] at h
    cases h
    exact B_X11_takes_8  ⟨_, rfl, rfl, rfl⟩
/-! StrayWoolModel.asks([C)V -/
noncomputable def S_X11_asks_24 (σ : sw_St) : Option (Unit × sw_St) :=
  some ((), σ)
theorem SC_X11_asks_24 {E : sw_E} {d : Nat} (hd : 3 ≤ d) {p : Unit × sw_St} {σ : sw_St} (h : S_X11_asks_24 σ  = some p) : sw_W E sw_gM m_X11_asks d 24 [] [] σ (sw_pV p) := by
  unfold S_X11_asks_24 at h
  cases h
  exact B_X11_asks_24  ⟨rfl, rfl⟩
noncomputable def F_X11_asks (σ : sw_St) (o1 : Nat) : Option (Unit × sw_St) :=
  if (σ.1 0 5) = 0 then ((F_X11_takes σ o1).bind fun q1 => if q1.1 = 0 then ((F_X11_fail q1.2 1 (q1.2.1 0 2)).bind fun q2 => S_X11_asks_24 q2.2 ) else (S_X11_asks_24 q1.2 )) else (S_X11_asks_24 σ )
theorem FC_X11_asks {E : sw_E} {d : Nat} (hd : 3 ≤ d) {p : Unit × sw_St} {σ : sw_St} {o1 : Nat} (h : F_X11_asks σ o1 = some p) : sw_KV E sw_gM m_X11_asks d [.ref 0, .ref o1] σ (fun s => s = p.2) := by
  unfold F_X11_asks at h
  refine sw_K.of (by decide +kernel) rfl (Nat.le_of_ble_eq_true rfl) ?_
  show sw_W E sw_gM m_X11_asks d 0 [(0, .ref 0), (1, .ref o1)] [] σ (sw_pV p)
  refine B_X11_asks_0  (fun hc => ?_) (fun hc => ?_)
  · rw [if_neg hc] at h
    exact SC_X11_asks_24 hd h
  · rw [if_pos hc] at h
    obtain ⟨q1, hq, h⟩ := sw_bnd h
    refine B_X11_asks_7  (FC_X11_takes (Nat.le_refl _) hq) (Nat.lt_of_lt_of_le (by decide) hd) (fun v s hvs => ?_)
    obtain ⟨hv1, hv2⟩ := hvs; subst hv1; subst hv2
    refine B_X11_asks_12  (fun hc => ?_) (fun hc => ?_)
    · rw [if_neg hc] at h
      exact SC_X11_asks_24 hd h
    · rw [if_pos hc] at h
      obtain ⟨q2, hq, h⟩ := sw_bnd h
      refine B_X11_asks_15  (FC_X11_fail (Nat.le_refl _) hq) (Nat.lt_of_lt_of_le (by decide) hd) (fun s hvs => ?_)
      subst hvs
      exact SC_X11_asks_24 hd h
/-! StrayWoolModel.takesSign(I)Z -/
noncomputable def S_X11_takesSign_15 (σ : sw_St) : Option (Int32 × sw_St) :=
  some (0, σ)
theorem SC_X11_takesSign_15 {E : sw_E} {d : Nat} (hd : 1 ≤ d) {p : Int32 × sw_St} {σ : sw_St} (h : S_X11_takesSign_15 σ  = some p) : sw_W E sw_gM m_X11_takesSign d 15 [] [] σ (sw_pI p) := by
  unfold S_X11_takesSign_15 at h
  cases h
  exact B_X11_takesSign_15  ⟨_, rfl, rfl, rfl⟩
noncomputable def F_X11_takesSign (σ : sw_St) (x1 : Int32) : Option (Int32 × sw_St) :=
  if (σ.1 0 5) = 0 then ((F_X11_look σ ).bind fun q1 => if q1.1 = x1 then (some (1, (sw_uI q1.2 0 2 ((q1.2.1 0 2) + 1)))) else (S_X11_takesSign_15 q1.2 )) else (S_X11_takesSign_15 σ )
theorem FC_X11_takesSign {E : sw_E} {d : Nat} (hd : 1 ≤ d) {p : Int32 × sw_St} {σ : sw_St} {x1 : Int32} (h : F_X11_takesSign σ x1 = some p) : sw_KI E sw_gM m_X11_takesSign d [.ref 0, .int x1] σ (fun v s => v = p.1 ∧ s = p.2) := by
  unfold F_X11_takesSign at h
  refine sw_K.of (by decide +kernel) rfl (Nat.le_of_ble_eq_true rfl) ?_
  show sw_W E sw_gM m_X11_takesSign d 0 [(0, .ref 0), (1, .int x1)] [] σ (sw_pI p)
  refine B_X11_takesSign_0  (fun hc => ?_) (fun hc => ?_)
  · rw [if_neg hc] at h
    exact SC_X11_takesSign_15 hd h
  · rw [if_pos hc] at h
    obtain ⟨q1, hq, h⟩ := sw_bnd h
    refine B_X11_takesSign_7  (FC_X11_look (Nat.le_refl _) hq) (Nat.lt_of_lt_of_le (by decide) hd) (fun v s hvs => ?_)
    obtain ⟨hv1, hv2⟩ := hvs; subst hv1; subst hv2
    refine B_X11_takesSign_11  (fun hc => ?_) (fun hc => ?_)
    · rw [if_pos hc] at h
      cases h
      exact B_X11_takesSign_17  ⟨_, rfl, rfl, rfl⟩
    · rw [if_neg hc] at h
      exact SC_X11_takesSign_15 hd h
/-! StrayWoolModel.asksSign(I)V -/
noncomputable def S_X11_asksSign_24 (σ : sw_St) : Option (Unit × sw_St) :=
  some ((), σ)
theorem SC_X11_asksSign_24 {E : sw_E} {d : Nat} (hd : 2 ≤ d) {p : Unit × sw_St} {σ : sw_St} (h : S_X11_asksSign_24 σ  = some p) : sw_W E sw_gM m_X11_asksSign d 24 [] [] σ (sw_pV p) := by
  unfold S_X11_asksSign_24 at h
  cases h
  exact B_X11_asksSign_24  ⟨rfl, rfl⟩
noncomputable def F_X11_asksSign (σ : sw_St) (x1 : Int32) : Option (Unit × sw_St) :=
  if (σ.1 0 5) = 0 then ((F_X11_takesSign σ x1).bind fun q1 => if q1.1 = 0 then ((F_X11_fail q1.2 1 (q1.2.1 0 2)).bind fun q2 => S_X11_asksSign_24 q2.2 ) else (S_X11_asksSign_24 q1.2 )) else (S_X11_asksSign_24 σ )
theorem FC_X11_asksSign {E : sw_E} {d : Nat} (hd : 2 ≤ d) {p : Unit × sw_St} {σ : sw_St} {x1 : Int32} (h : F_X11_asksSign σ x1 = some p) : sw_KV E sw_gM m_X11_asksSign d [.ref 0, .int x1] σ (fun s => s = p.2) := by
  unfold F_X11_asksSign at h
  refine sw_K.of (by decide +kernel) rfl (Nat.le_of_ble_eq_true rfl) ?_
  show sw_W E sw_gM m_X11_asksSign d 0 [(0, .ref 0), (1, .int x1)] [] σ (sw_pV p)
  refine B_X11_asksSign_0  (fun hc => ?_) (fun hc => ?_)
  · rw [if_neg hc] at h
    exact SC_X11_asksSign_24 hd h
  · rw [if_pos hc] at h
    obtain ⟨q1, hq, h⟩ := sw_bnd h
    refine B_X11_asksSign_7  (FC_X11_takesSign (Nat.le_refl _) hq) (Nat.lt_of_lt_of_le (by decide) hd) (fun v s hvs => ?_)
    obtain ⟨hv1, hv2⟩ := hvs; subst hv1; subst hv2
    refine B_X11_asksSign_12  (fun hc => ?_) (fun hc => ?_)
    · rw [if_neg hc] at h
      exact SC_X11_asksSign_24 hd h
    · rw [if_pos hc] at h
      obtain ⟨q2, hq, h⟩ := sw_bnd h
      refine B_X11_asksSign_15  (FC_X11_fail (Nat.le_refl _) hq) (Nat.lt_of_lt_of_le (by decide) hd) (fun s hvs => ?_)
      subst hvs
      exact SC_X11_asksSign_24 hd h
/-! StrayWoolModel.number(II)I -/
noncomputable def S_X11_number_30 (σ : sw_St) : Option (Int32 × sw_St) :=
  (F_X11_fail σ 1 (σ.1 0 2)).bind fun q1 => some (0, q1.2)
theorem SC_X11_number_30 {E : sw_E} {d : Nat} (hd : 1 ≤ d) {p : Int32 × sw_St} {σ : sw_St} (h : S_X11_number_30 σ  = some p) : sw_W E sw_gM m_X11_number d 30 [(0, .ref 0)] [] σ (sw_pI p) := by
  unfold S_X11_number_30 at h
  obtain ⟨q1, hq, h⟩ := sw_bnd h
  refine B_X11_number_30  (FC_X11_fail (Nat.le_refl _) hq) (Nat.lt_of_lt_of_le (by decide) hd) (fun s hvs => ?_)
  subst hvs
  cases h
  exact B_X11_number_39  ⟨_, rfl, rfl, rfl⟩
noncomputable def S_X11_number_164 (σ : sw_St) (x4 : Int32) : Option (Int32 × sw_St) :=
  some (x4, σ)
theorem SC_X11_number_164 {E : sw_E} {d : Nat} (hd : 1 ≤ d) {p : Int32 × sw_St} {σ : sw_St} {x4 : Int32} (h : S_X11_number_164 σ x4 = some p) : sw_W E sw_gM m_X11_number d 164 [(4, .int x4)] [] σ (sw_pI p) := by
  unfold S_X11_number_164 at h
  cases h
  exact B_X11_number_164  ⟨_, rfl, rfl, rfl⟩
noncomputable def S_X11_number_129 (σ : sw_St) (x1 : Int32) (x2 : Int32) (x3 : Int32) (x4 : Int32) : Option (Int32 × sw_St) :=
  (F_X11_isIn (sw_uI (sw_uI σ 0 4 (σ.1 0 2)) 0 10 x3) x4.toInt64 x1.toInt64 x2.toInt64).bind fun q1 => if q1.1 = 0 then ((F_X11_fail q1.2 2 (q1.2.1 0 10)).bind fun q2 => S_X11_number_164 q2.2 x4) else (S_X11_number_164 q1.2 x4)
theorem SC_X11_number_129 {E : sw_E} {d : Nat} (hd : 1 ≤ d) {p : Int32 × sw_St} {σ : sw_St} {x1 : Int32} {x2 : Int32} {x3 : Int32} {x4 : Int32} (h : S_X11_number_129 σ x1 x2 x3 x4 = some p) : sw_W E sw_gM m_X11_number d 129 [(0, .ref 0), (1, .int x1), (2, .int x2), (3, .int x3), (4, .int x4)] [] σ (sw_pI p) := by
  unfold S_X11_number_129 at h
  obtain ⟨q1, hq, h⟩ := sw_bnd h
  refine B_X11_number_129  (FC_X11_isIn (Nat.le_refl _) hq) (Nat.lt_of_lt_of_le (by decide) hd) (fun v s hvs => ?_)
  obtain ⟨hv1, hv2⟩ := hvs; subst hv1; subst hv2
  refine B_X11_number_152  (fun hc => ?_) (fun hc => ?_)
  · rw [if_neg hc] at h
    exact SC_X11_number_164 hd h
  · rw [if_pos hc] at h
    obtain ⟨q2, hq, h⟩ := sw_bnd h
    refine B_X11_number_155  (FC_X11_fail (Nat.le_refl _) hq) (Nat.lt_of_lt_of_le (by decide) hd) (fun s hvs => ?_)
    subst hvs
    exact SC_X11_number_164 hd h
noncomputable def S_X11_number_49 (c49 : sw_St → Int32 → Int32 → Int32 → Int32 → Option (Int32 × sw_St)) (σ : sw_St) (x1 : Int32) (x2 : Int32) (x3 : Int32) (x4 : Int32) : Option (Int32 × sw_St) :=
  if (σ.1 0 3) ≤ (σ.1 0 2) then (S_X11_number_129 σ x1 x2 x3 x4) else (if sw_inb (σ.1 0 2) 1600 = true then ((F_X11_isDigit σ (σ.1 1 ((σ.1 0 2).toNatClampNeg))).bind fun q2 => if q2.1 = 0 then (S_X11_number_129 q2.2 x1 x2 x3 x4) else (if ((q2.2.1 0 2) - x3) = 4 then ((F_X11_fail q2.2 1 (q2.2.1 0 2)).bind fun q4 => some (0, q4.2)) else (if sw_inb (q2.2.1 0 2) 1600 = true then (c49 (sw_uI q2.2 0 2 ((q2.2.1 0 2) + 1)) x1 x2 x3 (((10 * x4) + (q2.2.1 1 ((q2.2.1 0 2).toNatClampNeg))) - 48)) else none))) else none)
theorem SC_X11_number_49 {E : sw_E} {d : Nat} (hd : 1 ≤ d) {p : Int32 × sw_St} {c49 : sw_St → Int32 → Int32 → Int32 → Int32 → Option (Int32 × sw_St)} (h49 : ∀ (σ : sw_St) (x1 : Int32) (x2 : Int32) (x3 : Int32) (x4 : Int32), c49 σ x1 x2 x3 x4 = some p → sw_W E sw_gM m_X11_number d 49 [(0, .ref 0), (1, .int x1), (2, .int x2), (3, .int x3), (4, .int x4)] [] σ (sw_pI p)) {σ : sw_St} {x1 : Int32} {x2 : Int32} {x3 : Int32} {x4 : Int32} (h : S_X11_number_49 c49 σ x1 x2 x3 x4 = some p) : sw_W E sw_gM m_X11_number d 49 [(0, .ref 0), (1, .int x1), (2, .int x2), (3, .int x3), (4, .int x4)] [] σ (sw_pI p) := by
  unfold S_X11_number_49 at h
  refine B_X11_number_49  (fun hc => ?_) (fun hc => ?_)
  · rw [if_pos hc] at h
    exact SC_X11_number_129 hd h
  · rw [if_neg hc] at h
    obtain ⟨o1, h⟩ := sw_ifs h
    obtain ⟨q2, hq, h⟩ := sw_bnd h
    refine B_X11_number_60 (sw_inb_sp o1) (FC_X11_isDigit (Nat.le_refl _) hq) (Nat.lt_of_lt_of_le (by decide) hd) (fun v s hvs => ?_)
    obtain ⟨hv1, hv2⟩ := hvs; subst hv1; subst hv2
    refine B_X11_number_72  (fun hc => ?_) (fun hc => ?_)
    · rw [if_pos hc] at h
      exact SC_X11_number_129 hd h
    · rw [if_neg hc] at h
      refine B_X11_number_75  (fun hc => ?_) (fun hc => ?_)
      · rw [if_neg hc] at h
        obtain ⟨o3, h⟩ := sw_ifs h
        refine B_X11_number_96 (sw_inb_sp o3) ?_
        exact h49 _ _ _ _ _ h
      · rw [if_pos hc] at h
        obtain ⟨q4, hq, h⟩ := sw_bnd h
        refine B_X11_number_85  (FC_X11_fail (Nat.le_refl _) hq) (Nat.lt_of_lt_of_le (by decide) hd) (fun s hvs => ?_)
        subst hvs
        cases h
        exact B_X11_number_94  ⟨_, rfl, rfl, rfl⟩
noncomputable def L_X11_number_49 : Nat → sw_St → Int32 → Int32 → Int32 → Int32 → Option (Int32 × sw_St)
  | 0, _, _, _, _, _ => none
  | k + 1, σ, x1, x2, x3, x4 => S_X11_number_49 (fun σ x1 x2 x3 x4 => L_X11_number_49 k σ x1 x2 x3 x4) σ x1 x2 x3 x4
theorem LC_X11_number_49 {E : sw_E} {d : Nat} (hd : 1 ≤ d) {p : Int32 × sw_St} : ∀ (k : Nat) (σ : sw_St) (x1 : Int32) (x2 : Int32) (x3 : Int32) (x4 : Int32), L_X11_number_49 k σ x1 x2 x3 x4 = some p → sw_W E sw_gM m_X11_number d 49 [(0, .ref 0), (1, .int x1), (2, .int x2), (3, .int x3), (4, .int x4)] [] σ (sw_pI p) := by
  intro k
  induction k with
  | zero => intro σ x1 x2 x3 x4 h; cases h
  | succ k ih => intro σ x1 x2 x3 x4 h; exact SC_X11_number_49 hd ih h
noncomputable def F_X11_number (σ : sw_St) (x1 : Int32) (x2 : Int32) : Option (Int32 × sw_St) :=
  if (σ.1 0 5) = 0 then ((F_X11_look σ ).bind fun q1 => (F_X11_isDigit q1.2 q1.1).bind fun q2 => if q2.1 = 0 then (S_X11_number_30 q2.2 ) else (if (q2.2.1 0 2) = (q2.2.1 0 4) then (S_X11_number_30 q2.2 ) else (L_X11_number_49 sw_fuel q2.2 x1 x2 (q2.2.1 0 2) 0))) else (some (0, σ))
theorem FC_X11_number {E : sw_E} {d : Nat} (hd : 1 ≤ d) {p : Int32 × sw_St} {σ : sw_St} {x1 : Int32} {x2 : Int32} (h : F_X11_number σ x1 x2 = some p) : sw_KI E sw_gM m_X11_number d [.ref 0, .int x1, .int x2] σ (fun v s => v = p.1 ∧ s = p.2) := by
  unfold F_X11_number at h
  refine sw_K.of (by decide +kernel) rfl (Nat.le_of_ble_eq_true rfl) ?_
  show sw_W E sw_gM m_X11_number d 0 [(0, .ref 0), (1, .int x1), (2, .int x2)] [] σ (sw_pI p)
  refine B_X11_number_0  (fun hc => ?_) (fun hc => ?_)
  · rw [if_pos hc] at h
    obtain ⟨q1, hq, h⟩ := sw_bnd h
    refine B_X11_number_9  (FC_X11_look (Nat.le_refl _) hq) (Nat.lt_of_lt_of_le (by decide) hd) (fun v s hvs => ?_)
    obtain ⟨hv1, hv2⟩ := hvs; subst hv1; subst hv2
    obtain ⟨q2, hq, h⟩ := sw_bnd h
    refine B_X11_number_13  (FC_X11_isDigit (Nat.le_refl _) hq) (Nat.lt_of_lt_of_le (by decide) hd) (fun v s hvs => ?_)
    obtain ⟨hv1, hv2⟩ := hvs; subst hv1; subst hv2
    refine B_X11_number_16  (fun hc => ?_) (fun hc => ?_)
    · rw [if_pos hc] at h
      exact SC_X11_number_30 hd h
    · rw [if_neg hc] at h
      refine B_X11_number_19  (fun hc => ?_) (fun hc => ?_)
      · rw [if_neg hc] at h
        refine B_X11_number_41  ?_
        exact LC_X11_number_49 hd _ _ _ _ _ _ h
      · rw [if_pos hc] at h
        exact SC_X11_number_30 hd h
  · rw [if_neg hc] at h
    cases h
    exact B_X11_number_7  ⟨_, rfl, rfl, rfl⟩
/-! StrayWoolModel.isOwnHere()Z -/
noncomputable def S_X11_isOwnHere_320 (σ : sw_St) (sx0 : Int32) : Option (Int32 × sw_St) :=
  if sx0 = 0 ∨ sx0 = 1 then some (sx0, σ) else none
theorem SC_X11_isOwnHere_320 {E : sw_E} {d : Nat} (hd : 2 ≤ d) {p : Int32 × sw_St} {σ : sw_St} {sx0 : Int32} (h : S_X11_isOwnHere_320 σ sx0 = some p) : sw_W E sw_gM m_X11_isOwnHere d 320 [] [.int sx0] σ (sw_pI p) := by
  unfold S_X11_isOwnHere_320 at h
  obtain ⟨hz, h⟩ := sw_ifs h
  cases h
  exact B_X11_isOwnHere_320  hz ⟨_, rfl, rfl, rfl⟩
noncomputable def S_X11_isOwnHere_315 (σ : sw_St) : Option (Int32 × sw_St) :=
  S_X11_isOwnHere_320 σ 1
theorem SC_X11_isOwnHere_315 {E : sw_E} {d : Nat} (hd : 2 ≤ d) {p : Int32 × sw_St} {σ : sw_St} (h : S_X11_isOwnHere_315 σ  = some p) : sw_W E sw_gM m_X11_isOwnHere d 315 [] [] σ (sw_pI p) := by
  unfold S_X11_isOwnHere_315 at h
  refine B_X11_isOwnHere_315  ?_
  exact SC_X11_isOwnHere_320 hd h
noncomputable def S_X11_isOwnHere_299 (σ : sw_St) (sx0 : Int32) : Option (Int32 × sw_St) :=
  if sx0 = 0 then ((F_X11_isHere σ 27).bind fun q1 => if q1.1 = 0 then (S_X11_isOwnHere_320 q1.2 0) else (S_X11_isOwnHere_315 q1.2 )) else (S_X11_isOwnHere_315 σ )
theorem SC_X11_isOwnHere_299 {E : sw_E} {d : Nat} (hd : 2 ≤ d) {p : Int32 × sw_St} {σ : sw_St} {sx0 : Int32} (h : S_X11_isOwnHere_299 σ sx0 = some p) : sw_W E sw_gM m_X11_isOwnHere d 299 [(0, .ref 0)] [.int sx0] σ (sw_pI p) := by
  unfold S_X11_isOwnHere_299 at h
  refine B_X11_isOwnHere_299  (fun hc => ?_) (fun hc => ?_)
  · rw [if_neg hc] at h
    exact SC_X11_isOwnHere_315 hd h
  · rw [if_pos hc] at h
    obtain ⟨q1, hq, h⟩ := sw_bnd h
    refine B_X11_isOwnHere_304  (FC_X11_isHere (Nat.le_refl _) hq) (Nat.lt_of_lt_of_le (by decide) hd) (fun v s hvs => ?_)
    obtain ⟨hv1, hv2⟩ := hvs; subst hv1; subst hv2
    refine B_X11_isOwnHere_312  (fun hc => ?_) (fun hc => ?_)
    · rw [if_pos hc] at h
      refine B_X11_isOwnHere_319  ?_
      exact SC_X11_isOwnHere_320 hd h
    · rw [if_neg hc] at h
      exact SC_X11_isOwnHere_315 hd h
noncomputable def S_X11_isOwnHere_294 (σ : sw_St) : Option (Int32 × sw_St) :=
  S_X11_isOwnHere_299 σ 1
theorem SC_X11_isOwnHere_294 {E : sw_E} {d : Nat} (hd : 2 ≤ d) {p : Int32 × sw_St} {σ : sw_St} (h : S_X11_isOwnHere_294 σ  = some p) : sw_W E sw_gM m_X11_isOwnHere d 294 [(0, .ref 0)] [] σ (sw_pI p) := by
  unfold S_X11_isOwnHere_294 at h
  refine B_X11_isOwnHere_294  ?_
  exact SC_X11_isOwnHere_299 hd h
noncomputable def S_X11_isOwnHere_223 (σ : sw_St) (sx0 : Int32) : Option (Int32 × sw_St) :=
  if sx0 = 0 then ((F_X11_isHere σ 21).bind fun q1 => if q1.1 = 0 then ((F_X11_isHere q1.2 22).bind fun q2 => if q2.1 = 0 then ((F_X11_isHere q2.2 23).bind fun q3 => if q3.1 = 0 then ((F_X11_isHere q3.2 24).bind fun q4 => if q4.1 = 0 then ((F_X11_isHere q4.2 25).bind fun q5 => if q5.1 = 0 then ((F_X11_isHere q5.2 26).bind fun q6 => if q6.1 = 0 then (S_X11_isOwnHere_299 q6.2 0) else (S_X11_isOwnHere_294 q6.2 )) else (S_X11_isOwnHere_294 q5.2 )) else (S_X11_isOwnHere_294 q4.2 )) else (S_X11_isOwnHere_294 q3.2 )) else (S_X11_isOwnHere_294 q2.2 )) else (S_X11_isOwnHere_294 q1.2 )) else (S_X11_isOwnHere_294 σ )
theorem SC_X11_isOwnHere_223 {E : sw_E} {d : Nat} (hd : 2 ≤ d) {p : Int32 × sw_St} {σ : sw_St} {sx0 : Int32} (h : S_X11_isOwnHere_223 σ sx0 = some p) : sw_W E sw_gM m_X11_isOwnHere d 223 [(0, .ref 0)] [.int sx0] σ (sw_pI p) := by
  unfold S_X11_isOwnHere_223 at h
  refine B_X11_isOwnHere_223  (fun hc => ?_) (fun hc => ?_)
  · rw [if_neg hc] at h
    exact SC_X11_isOwnHere_294 hd h
  · rw [if_pos hc] at h
    obtain ⟨q1, hq, h⟩ := sw_bnd h
    refine B_X11_isOwnHere_228  (FC_X11_isHere (Nat.le_refl _) hq) (Nat.lt_of_lt_of_le (by decide) hd) (fun v s hvs => ?_)
    obtain ⟨hv1, hv2⟩ := hvs; subst hv1; subst hv2
    refine B_X11_isOwnHere_236  (fun hc => ?_) (fun hc => ?_)
    · rw [if_neg hc] at h
      exact SC_X11_isOwnHere_294 hd h
    · rw [if_pos hc] at h
      obtain ⟨q2, hq, h⟩ := sw_bnd h
      refine B_X11_isOwnHere_239  (FC_X11_isHere (Nat.le_refl _) hq) (Nat.lt_of_lt_of_le (by decide) hd) (fun v s hvs => ?_)
      obtain ⟨hv1, hv2⟩ := hvs; subst hv1; subst hv2
      refine B_X11_isOwnHere_247  (fun hc => ?_) (fun hc => ?_)
      · rw [if_neg hc] at h
        exact SC_X11_isOwnHere_294 hd h
      · rw [if_pos hc] at h
        obtain ⟨q3, hq, h⟩ := sw_bnd h
        refine B_X11_isOwnHere_250  (FC_X11_isHere (Nat.le_refl _) hq) (Nat.lt_of_lt_of_le (by decide) hd) (fun v s hvs => ?_)
        obtain ⟨hv1, hv2⟩ := hvs; subst hv1; subst hv2
        refine B_X11_isOwnHere_258  (fun hc => ?_) (fun hc => ?_)
        · rw [if_neg hc] at h
          exact SC_X11_isOwnHere_294 hd h
        · rw [if_pos hc] at h
          obtain ⟨q4, hq, h⟩ := sw_bnd h
          refine B_X11_isOwnHere_261  (FC_X11_isHere (Nat.le_refl _) hq) (Nat.lt_of_lt_of_le (by decide) hd) (fun v s hvs => ?_)
          obtain ⟨hv1, hv2⟩ := hvs; subst hv1; subst hv2
          refine B_X11_isOwnHere_269  (fun hc => ?_) (fun hc => ?_)
          · rw [if_neg hc] at h
            exact SC_X11_isOwnHere_294 hd h
          · rw [if_pos hc] at h
            obtain ⟨q5, hq, h⟩ := sw_bnd h
            refine B_X11_isOwnHere_272  (FC_X11_isHere (Nat.le_refl _) hq) (Nat.lt_of_lt_of_le (by decide) hd) (fun v s hvs => ?_)
            obtain ⟨hv1, hv2⟩ := hvs; subst hv1; subst hv2
            refine B_X11_isOwnHere_280  (fun hc => ?_) (fun hc => ?_)
            · rw [if_neg hc] at h
              exact SC_X11_isOwnHere_294 hd h
            · rw [if_pos hc] at h
              obtain ⟨q6, hq, h⟩ := sw_bnd h
              refine B_X11_isOwnHere_283  (FC_X11_isHere (Nat.le_refl _) hq) (Nat.lt_of_lt_of_le (by decide) hd) (fun v s hvs => ?_)
              obtain ⟨hv1, hv2⟩ := hvs; subst hv1; subst hv2
              refine B_X11_isOwnHere_291  (fun hc => ?_) (fun hc => ?_)
              · rw [if_pos hc] at h
                refine B_X11_isOwnHere_298  ?_
                exact SC_X11_isOwnHere_299 hd h
              · rw [if_neg hc] at h
                exact SC_X11_isOwnHere_294 hd h
noncomputable def S_X11_isOwnHere_218 (σ : sw_St) : Option (Int32 × sw_St) :=
  S_X11_isOwnHere_223 σ 1
theorem SC_X11_isOwnHere_218 {E : sw_E} {d : Nat} (hd : 2 ≤ d) {p : Int32 × sw_St} {σ : sw_St} (h : S_X11_isOwnHere_218 σ  = some p) : sw_W E sw_gM m_X11_isOwnHere d 218 [(0, .ref 0)] [] σ (sw_pI p) := by
  unfold S_X11_isOwnHere_218 at h
  refine B_X11_isOwnHere_218  ?_
  exact SC_X11_isOwnHere_223 hd h
noncomputable def S_X11_isOwnHere_147 (σ : sw_St) (sx0 : Int32) : Option (Int32 × sw_St) :=
  if sx0 = 0 then ((F_X11_isHere σ 15).bind fun q1 => if q1.1 = 0 then ((F_X11_isHere q1.2 16).bind fun q2 => if q2.1 = 0 then ((F_X11_isHere q2.2 17).bind fun q3 => if q3.1 = 0 then ((F_X11_isHere q3.2 18).bind fun q4 => if q4.1 = 0 then ((F_X11_isHere q4.2 19).bind fun q5 => if q5.1 = 0 then ((F_X11_isHere q5.2 20).bind fun q6 => if q6.1 = 0 then (S_X11_isOwnHere_223 q6.2 0) else (S_X11_isOwnHere_218 q6.2 )) else (S_X11_isOwnHere_218 q5.2 )) else (S_X11_isOwnHere_218 q4.2 )) else (S_X11_isOwnHere_218 q3.2 )) else (S_X11_isOwnHere_218 q2.2 )) else (S_X11_isOwnHere_218 q1.2 )) else (S_X11_isOwnHere_218 σ )
theorem SC_X11_isOwnHere_147 {E : sw_E} {d : Nat} (hd : 2 ≤ d) {p : Int32 × sw_St} {σ : sw_St} {sx0 : Int32} (h : S_X11_isOwnHere_147 σ sx0 = some p) : sw_W E sw_gM m_X11_isOwnHere d 147 [(0, .ref 0)] [.int sx0] σ (sw_pI p) := by
  unfold S_X11_isOwnHere_147 at h
  refine B_X11_isOwnHere_147  (fun hc => ?_) (fun hc => ?_)
  · rw [if_neg hc] at h
    exact SC_X11_isOwnHere_218 hd h
  · rw [if_pos hc] at h
    obtain ⟨q1, hq, h⟩ := sw_bnd h
    refine B_X11_isOwnHere_152  (FC_X11_isHere (Nat.le_refl _) hq) (Nat.lt_of_lt_of_le (by decide) hd) (fun v s hvs => ?_)
    obtain ⟨hv1, hv2⟩ := hvs; subst hv1; subst hv2
    refine B_X11_isOwnHere_160  (fun hc => ?_) (fun hc => ?_)
    · rw [if_neg hc] at h
      exact SC_X11_isOwnHere_218 hd h
    · rw [if_pos hc] at h
      obtain ⟨q2, hq, h⟩ := sw_bnd h
      refine B_X11_isOwnHere_163  (FC_X11_isHere (Nat.le_refl _) hq) (Nat.lt_of_lt_of_le (by decide) hd) (fun v s hvs => ?_)
      obtain ⟨hv1, hv2⟩ := hvs; subst hv1; subst hv2
      refine B_X11_isOwnHere_171  (fun hc => ?_) (fun hc => ?_)
      · rw [if_neg hc] at h
        exact SC_X11_isOwnHere_218 hd h
      · rw [if_pos hc] at h
        obtain ⟨q3, hq, h⟩ := sw_bnd h
        refine B_X11_isOwnHere_174  (FC_X11_isHere (Nat.le_refl _) hq) (Nat.lt_of_lt_of_le (by decide) hd) (fun v s hvs => ?_)
        obtain ⟨hv1, hv2⟩ := hvs; subst hv1; subst hv2
        refine B_X11_isOwnHere_182  (fun hc => ?_) (fun hc => ?_)
        · rw [if_neg hc] at h
          exact SC_X11_isOwnHere_218 hd h
        · rw [if_pos hc] at h
          obtain ⟨q4, hq, h⟩ := sw_bnd h
          refine B_X11_isOwnHere_185  (FC_X11_isHere (Nat.le_refl _) hq) (Nat.lt_of_lt_of_le (by decide) hd) (fun v s hvs => ?_)
          obtain ⟨hv1, hv2⟩ := hvs; subst hv1; subst hv2
          refine B_X11_isOwnHere_193  (fun hc => ?_) (fun hc => ?_)
          · rw [if_neg hc] at h
            exact SC_X11_isOwnHere_218 hd h
          · rw [if_pos hc] at h
            obtain ⟨q5, hq, h⟩ := sw_bnd h
            refine B_X11_isOwnHere_196  (FC_X11_isHere (Nat.le_refl _) hq) (Nat.lt_of_lt_of_le (by decide) hd) (fun v s hvs => ?_)
            obtain ⟨hv1, hv2⟩ := hvs; subst hv1; subst hv2
            refine B_X11_isOwnHere_204  (fun hc => ?_) (fun hc => ?_)
            · rw [if_neg hc] at h
              exact SC_X11_isOwnHere_218 hd h
            · rw [if_pos hc] at h
              obtain ⟨q6, hq, h⟩ := sw_bnd h
              refine B_X11_isOwnHere_207  (FC_X11_isHere (Nat.le_refl _) hq) (Nat.lt_of_lt_of_le (by decide) hd) (fun v s hvs => ?_)
              obtain ⟨hv1, hv2⟩ := hvs; subst hv1; subst hv2
              refine B_X11_isOwnHere_215  (fun hc => ?_) (fun hc => ?_)
              · rw [if_pos hc] at h
                refine B_X11_isOwnHere_222  ?_
                exact SC_X11_isOwnHere_223 hd h
              · rw [if_neg hc] at h
                exact SC_X11_isOwnHere_218 hd h
noncomputable def S_X11_isOwnHere_142 (σ : sw_St) : Option (Int32 × sw_St) :=
  S_X11_isOwnHere_147 σ 1
theorem SC_X11_isOwnHere_142 {E : sw_E} {d : Nat} (hd : 2 ≤ d) {p : Int32 × sw_St} {σ : sw_St} (h : S_X11_isOwnHere_142 σ  = some p) : sw_W E sw_gM m_X11_isOwnHere d 142 [(0, .ref 0)] [] σ (sw_pI p) := by
  unfold S_X11_isOwnHere_142 at h
  refine B_X11_isOwnHere_142  ?_
  exact SC_X11_isOwnHere_147 hd h
noncomputable def S_X11_isOwnHere_71 (σ : sw_St) (sx0 : Int32) : Option (Int32 × sw_St) :=
  if sx0 = 0 then ((F_X11_isHere σ 9).bind fun q1 => if q1.1 = 0 then ((F_X11_isHere q1.2 10).bind fun q2 => if q2.1 = 0 then ((F_X11_isHere q2.2 11).bind fun q3 => if q3.1 = 0 then ((F_X11_isHere q3.2 12).bind fun q4 => if q4.1 = 0 then ((F_X11_isHere q4.2 13).bind fun q5 => if q5.1 = 0 then ((F_X11_isHere q5.2 14).bind fun q6 => if q6.1 = 0 then (S_X11_isOwnHere_147 q6.2 0) else (S_X11_isOwnHere_142 q6.2 )) else (S_X11_isOwnHere_142 q5.2 )) else (S_X11_isOwnHere_142 q4.2 )) else (S_X11_isOwnHere_142 q3.2 )) else (S_X11_isOwnHere_142 q2.2 )) else (S_X11_isOwnHere_142 q1.2 )) else (S_X11_isOwnHere_142 σ )
theorem SC_X11_isOwnHere_71 {E : sw_E} {d : Nat} (hd : 2 ≤ d) {p : Int32 × sw_St} {σ : sw_St} {sx0 : Int32} (h : S_X11_isOwnHere_71 σ sx0 = some p) : sw_W E sw_gM m_X11_isOwnHere d 71 [(0, .ref 0)] [.int sx0] σ (sw_pI p) := by
  unfold S_X11_isOwnHere_71 at h
  refine B_X11_isOwnHere_71  (fun hc => ?_) (fun hc => ?_)
  · rw [if_neg hc] at h
    exact SC_X11_isOwnHere_142 hd h
  · rw [if_pos hc] at h
    obtain ⟨q1, hq, h⟩ := sw_bnd h
    refine B_X11_isOwnHere_76  (FC_X11_isHere (Nat.le_refl _) hq) (Nat.lt_of_lt_of_le (by decide) hd) (fun v s hvs => ?_)
    obtain ⟨hv1, hv2⟩ := hvs; subst hv1; subst hv2
    refine B_X11_isOwnHere_84  (fun hc => ?_) (fun hc => ?_)
    · rw [if_neg hc] at h
      exact SC_X11_isOwnHere_142 hd h
    · rw [if_pos hc] at h
      obtain ⟨q2, hq, h⟩ := sw_bnd h
      refine B_X11_isOwnHere_87  (FC_X11_isHere (Nat.le_refl _) hq) (Nat.lt_of_lt_of_le (by decide) hd) (fun v s hvs => ?_)
      obtain ⟨hv1, hv2⟩ := hvs; subst hv1; subst hv2
      refine B_X11_isOwnHere_95  (fun hc => ?_) (fun hc => ?_)
      · rw [if_neg hc] at h
        exact SC_X11_isOwnHere_142 hd h
      · rw [if_pos hc] at h
        obtain ⟨q3, hq, h⟩ := sw_bnd h
        refine B_X11_isOwnHere_98  (FC_X11_isHere (Nat.le_refl _) hq) (Nat.lt_of_lt_of_le (by decide) hd) (fun v s hvs => ?_)
        obtain ⟨hv1, hv2⟩ := hvs; subst hv1; subst hv2
        refine B_X11_isOwnHere_106  (fun hc => ?_) (fun hc => ?_)
        · rw [if_neg hc] at h
          exact SC_X11_isOwnHere_142 hd h
        · rw [if_pos hc] at h
          obtain ⟨q4, hq, h⟩ := sw_bnd h
          refine B_X11_isOwnHere_109  (FC_X11_isHere (Nat.le_refl _) hq) (Nat.lt_of_lt_of_le (by decide) hd) (fun v s hvs => ?_)
          obtain ⟨hv1, hv2⟩ := hvs; subst hv1; subst hv2
          refine B_X11_isOwnHere_117  (fun hc => ?_) (fun hc => ?_)
          · rw [if_neg hc] at h
            exact SC_X11_isOwnHere_142 hd h
          · rw [if_pos hc] at h
            obtain ⟨q5, hq, h⟩ := sw_bnd h
            refine B_X11_isOwnHere_120  (FC_X11_isHere (Nat.le_refl _) hq) (Nat.lt_of_lt_of_le (by decide) hd) (fun v s hvs => ?_)
            obtain ⟨hv1, hv2⟩ := hvs; subst hv1; subst hv2
            refine B_X11_isOwnHere_128  (fun hc => ?_) (fun hc => ?_)
            · rw [if_neg hc] at h
              exact SC_X11_isOwnHere_142 hd h
            · rw [if_pos hc] at h
              obtain ⟨q6, hq, h⟩ := sw_bnd h
              refine B_X11_isOwnHere_131  (FC_X11_isHere (Nat.le_refl _) hq) (Nat.lt_of_lt_of_le (by decide) hd) (fun v s hvs => ?_)
              obtain ⟨hv1, hv2⟩ := hvs; subst hv1; subst hv2
              refine B_X11_isOwnHere_139  (fun hc => ?_) (fun hc => ?_)
              · rw [if_pos hc] at h
                refine B_X11_isOwnHere_146  ?_
                exact SC_X11_isOwnHere_147 hd h
              · rw [if_neg hc] at h
                exact SC_X11_isOwnHere_142 hd h
noncomputable def S_X11_isOwnHere_66 (σ : sw_St) : Option (Int32 × sw_St) :=
  S_X11_isOwnHere_71 σ 1
theorem SC_X11_isOwnHere_66 {E : sw_E} {d : Nat} (hd : 2 ≤ d) {p : Int32 × sw_St} {σ : sw_St} (h : S_X11_isOwnHere_66 σ  = some p) : sw_W E sw_gM m_X11_isOwnHere d 66 [(0, .ref 0)] [] σ (sw_pI p) := by
  unfold S_X11_isOwnHere_66 at h
  refine B_X11_isOwnHere_66  ?_
  exact SC_X11_isOwnHere_71 hd h
noncomputable def F_X11_isOwnHere (σ : sw_St) : Option (Int32 × sw_St) :=
  (F_X11_isHere σ 3).bind fun q1 => if q1.1 = 0 then ((F_X11_isHere q1.2 4).bind fun q2 => if q2.1 = 0 then ((F_X11_isHere q2.2 5).bind fun q3 => if q3.1 = 0 then ((F_X11_isHere q3.2 6).bind fun q4 => if q4.1 = 0 then ((F_X11_isHere q4.2 7).bind fun q5 => if q5.1 = 0 then ((F_X11_isHere q5.2 8).bind fun q6 => if q6.1 = 0 then (S_X11_isOwnHere_71 q6.2 0) else (S_X11_isOwnHere_66 q6.2 )) else (S_X11_isOwnHere_66 q5.2 )) else (S_X11_isOwnHere_66 q4.2 )) else (S_X11_isOwnHere_66 q3.2 )) else (S_X11_isOwnHere_66 q2.2 )) else (S_X11_isOwnHere_66 q1.2 )
theorem FC_X11_isOwnHere {E : sw_E} {d : Nat} (hd : 2 ≤ d) {p : Int32 × sw_St} {σ : sw_St} (h : F_X11_isOwnHere σ  = some p) : sw_KI E sw_gM m_X11_isOwnHere d [.ref 0] σ (fun v s => v = p.1 ∧ s = p.2) := by
  unfold F_X11_isOwnHere at h
  refine sw_K.of (by decide +kernel) rfl (Nat.le_of_ble_eq_true rfl) ?_
  show sw_W E sw_gM m_X11_isOwnHere d 0 [(0, .ref 0)] [] σ (sw_pI p)
  obtain ⟨q1, hq, h⟩ := sw_bnd h
  refine B_X11_isOwnHere_0  (FC_X11_isHere (Nat.le_refl _) hq) (Nat.lt_of_lt_of_le (by decide) hd) (fun v s hvs => ?_)
  obtain ⟨hv1, hv2⟩ := hvs; subst hv1; subst hv2
  refine B_X11_isOwnHere_8  (fun hc => ?_) (fun hc => ?_)
  · rw [if_neg hc] at h
    exact SC_X11_isOwnHere_66 hd h
  · rw [if_pos hc] at h
    obtain ⟨q2, hq, h⟩ := sw_bnd h
    refine B_X11_isOwnHere_11  (FC_X11_isHere (Nat.le_refl _) hq) (Nat.lt_of_lt_of_le (by decide) hd) (fun v s hvs => ?_)
    obtain ⟨hv1, hv2⟩ := hvs; subst hv1; subst hv2
    refine B_X11_isOwnHere_19  (fun hc => ?_) (fun hc => ?_)
    · rw [if_neg hc] at h
      exact SC_X11_isOwnHere_66 hd h
    · rw [if_pos hc] at h
      obtain ⟨q3, hq, h⟩ := sw_bnd h
      refine B_X11_isOwnHere_22  (FC_X11_isHere (Nat.le_refl _) hq) (Nat.lt_of_lt_of_le (by decide) hd) (fun v s hvs => ?_)
      obtain ⟨hv1, hv2⟩ := hvs; subst hv1; subst hv2
      refine B_X11_isOwnHere_30  (fun hc => ?_) (fun hc => ?_)
      · rw [if_neg hc] at h
        exact SC_X11_isOwnHere_66 hd h
      · rw [if_pos hc] at h
        obtain ⟨q4, hq, h⟩ := sw_bnd h
        refine B_X11_isOwnHere_33  (FC_X11_isHere (Nat.le_refl _) hq) (Nat.lt_of_lt_of_le (by decide) hd) (fun v s hvs => ?_)
        obtain ⟨hv1, hv2⟩ := hvs; subst hv1; subst hv2
        refine B_X11_isOwnHere_41  (fun hc => ?_) (fun hc => ?_)
        · rw [if_neg hc] at h
          exact SC_X11_isOwnHere_66 hd h
        · rw [if_pos hc] at h
          obtain ⟨q5, hq, h⟩ := sw_bnd h
          refine B_X11_isOwnHere_44  (FC_X11_isHere (Nat.le_refl _) hq) (Nat.lt_of_lt_of_le (by decide) hd) (fun v s hvs => ?_)
          obtain ⟨hv1, hv2⟩ := hvs; subst hv1; subst hv2
          refine B_X11_isOwnHere_52  (fun hc => ?_) (fun hc => ?_)
          · rw [if_neg hc] at h
            exact SC_X11_isOwnHere_66 hd h
          · rw [if_pos hc] at h
            obtain ⟨q6, hq, h⟩ := sw_bnd h
            refine B_X11_isOwnHere_55  (FC_X11_isHere (Nat.le_refl _) hq) (Nat.lt_of_lt_of_le (by decide) hd) (fun v s hvs => ?_)
            obtain ⟨hv1, hv2⟩ := hvs; subst hv1; subst hv2
            refine B_X11_isOwnHere_63  (fun hc => ?_) (fun hc => ?_)
            · rw [if_pos hc] at h
              refine B_X11_isOwnHere_70  ?_
              exact SC_X11_isOwnHere_71 hd h
            · rw [if_neg hc] at h
              exact SC_X11_isOwnHere_66 hd h
/-! StrayWoolModel.name()J -/
noncomputable def S_X11_name_37 (σ : sw_St) : Option (Int64 × sw_St) :=
  (F_X11_fail σ 1 (σ.1 0 2)).bind fun q1 => some (0, q1.2)
theorem SC_X11_name_37 {E : sw_E} {d : Nat} (hd : 3 ≤ d) {p : Int64 × sw_St} {σ : sw_St} (h : S_X11_name_37 σ  = some p) : sw_W E sw_gM m_X11_name d 37 [(0, .ref 0)] [] σ (sw_pL p) := by
  unfold S_X11_name_37 at h
  obtain ⟨q1, hq, h⟩ := sw_bnd h
  refine B_X11_name_37  (FC_X11_fail (Nat.le_refl _) hq) (Nat.lt_of_lt_of_le (by decide) hd) (fun s hvs => ?_)
  subst hvs
  cases h
  exact B_X11_name_46  ⟨_, rfl, rfl, rfl⟩
noncomputable def S_X11_name_145 (σ : sw_St) (y1 : Int64) : Option (Int64 × sw_St) :=
  some (y1, (sw_uI σ 0 4 (σ.1 0 2)))
theorem SC_X11_name_145 {E : sw_E} {d : Nat} (hd : 3 ≤ d) {p : Int64 × sw_St} {σ : sw_St} {y1 : Int64} (h : S_X11_name_145 σ y1 = some p) : sw_W E sw_gM m_X11_name d 145 [(0, .ref 0), (1, .long y1)] [] σ (sw_pL p) := by
  unfold S_X11_name_145 at h
  cases h
  exact B_X11_name_145  ⟨_, rfl, rfl, rfl⟩
noncomputable def S_X11_name_58 (c58 : sw_St → Int64 → Option (Int64 × sw_St)) (σ : sw_St) (y1 : Int64) : Option (Int64 × sw_St) :=
  if (σ.1 0 3) ≤ (σ.1 0 2) then (S_X11_name_145 σ y1) else (if sw_inb (σ.1 0 2) 1600 = true then ((F_X11_isLetter σ (σ.1 1 ((σ.1 0 2).toNatClampNeg))).bind fun q2 => if q2.1 = 0 then (S_X11_name_145 q2.2 y1) else (if ((q2.2.1 0 2) - (q2.2.1 0 36)) = 6 then ((F_X11_fail q2.2 1 (q2.2.1 0 2)).bind fun q4 => some (0, q4.2)) else (if sw_inb (q2.2.1 0 2) 1600 = true then (c58 (sw_uI q2.2 0 2 ((q2.2.1 0 2) + 1)) ((((27 * y1) + ((q2.2.1 1 ((q2.2.1 0 2).toNatClampNeg)).toInt64)) - 97) + 1)) else none))) else none)
theorem SC_X11_name_58 {E : sw_E} {d : Nat} (hd : 3 ≤ d) {p : Int64 × sw_St} {c58 : sw_St → Int64 → Option (Int64 × sw_St)} (h58 : ∀ (σ : sw_St) (y1 : Int64), c58 σ y1 = some p → sw_W E sw_gM m_X11_name d 58 [(0, .ref 0), (1, .long y1)] [] σ (sw_pL p)) {σ : sw_St} {y1 : Int64} (h : S_X11_name_58 c58 σ y1 = some p) : sw_W E sw_gM m_X11_name d 58 [(0, .ref 0), (1, .long y1)] [] σ (sw_pL p) := by
  unfold S_X11_name_58 at h
  refine B_X11_name_58  (fun hc => ?_) (fun hc => ?_)
  · rw [if_pos hc] at h
    exact SC_X11_name_145 hd h
  · rw [if_neg hc] at h
    obtain ⟨o1, h⟩ := sw_ifs h
    obtain ⟨q2, hq, h⟩ := sw_bnd h
    refine B_X11_name_69 (sw_inb_sp o1) (FC_X11_isLetter (Nat.le_refl _) hq) (Nat.lt_of_lt_of_le (by decide) hd) (fun v s hvs => ?_)
    obtain ⟨hv1, hv2⟩ := hvs; subst hv1; subst hv2
    refine B_X11_name_81  (fun hc => ?_) (fun hc => ?_)
    · rw [if_pos hc] at h
      exact SC_X11_name_145 hd h
    · rw [if_neg hc] at h
      refine B_X11_name_84  (fun hc => ?_) (fun hc => ?_)
      · rw [if_neg hc] at h
        obtain ⟨o3, h⟩ := sw_ifs h
        refine B_X11_name_109 (sw_inb_sp o3) ?_
        exact h58 _ _ h
      · rw [if_pos hc] at h
        obtain ⟨q4, hq, h⟩ := sw_bnd h
        refine B_X11_name_98  (FC_X11_fail (Nat.le_refl _) hq) (Nat.lt_of_lt_of_le (by decide) hd) (fun s hvs => ?_)
        subst hvs
        cases h
        exact B_X11_name_107  ⟨_, rfl, rfl, rfl⟩
noncomputable def L_X11_name_58 : Nat → sw_St → Int64 → Option (Int64 × sw_St)
  | 0, _, _ => none
  | k + 1, σ, y1 => S_X11_name_58 (fun σ y1 => L_X11_name_58 k σ y1) σ y1
theorem LC_X11_name_58 {E : sw_E} {d : Nat} (hd : 3 ≤ d) {p : Int64 × sw_St} : ∀ (k : Nat) (σ : sw_St) (y1 : Int64), L_X11_name_58 k σ y1 = some p → sw_W E sw_gM m_X11_name d 58 [(0, .ref 0), (1, .long y1)] [] σ (sw_pL p) := by
  intro k
  induction k with
  | zero => intro σ y1 h; cases h
  | succ k ih => intro σ y1 h; exact SC_X11_name_58 hd ih h
noncomputable def F_X11_name (σ : sw_St) : Option (Int64 × sw_St) :=
  if (σ.1 0 5) = 0 then ((F_X11_look σ ).bind fun q1 => (F_X11_isLetter q1.2 q1.1).bind fun q2 => if q2.1 = 0 then (S_X11_name_37 q2.2 ) else (if (q2.2.1 0 2) = (q2.2.1 0 4) then (S_X11_name_37 q2.2 ) else ((F_X11_isOwnHere q2.2 ).bind fun q3 => if q3.1 = 0 then (L_X11_name_58 sw_fuel (sw_uI q3.2 0 36 (q3.2.1 0 2)) 0) else (S_X11_name_37 q3.2 )))) else (some (0, σ))
theorem FC_X11_name {E : sw_E} {d : Nat} (hd : 3 ≤ d) {p : Int64 × sw_St} {σ : sw_St} (h : F_X11_name σ  = some p) : sw_KL E sw_gM m_X11_name d [.ref 0] σ (fun v s => v = p.1 ∧ s = p.2) := by
  unfold F_X11_name at h
  refine sw_K.of (by decide +kernel) rfl (Nat.le_of_ble_eq_true rfl) ?_
  show sw_W E sw_gM m_X11_name d 0 [(0, .ref 0)] [] σ (sw_pL p)
  refine B_X11_name_0  (fun hc => ?_) (fun hc => ?_)
  · rw [if_pos hc] at h
    obtain ⟨q1, hq, h⟩ := sw_bnd h
    refine B_X11_name_9  (FC_X11_look (Nat.le_refl _) hq) (Nat.lt_of_lt_of_le (by decide) hd) (fun v s hvs => ?_)
    obtain ⟨hv1, hv2⟩ := hvs; subst hv1; subst hv2
    obtain ⟨q2, hq, h⟩ := sw_bnd h
    refine B_X11_name_13  (FC_X11_isLetter (Nat.le_refl _) hq) (Nat.lt_of_lt_of_le (by decide) hd) (fun v s hvs => ?_)
    obtain ⟨hv1, hv2⟩ := hvs; subst hv1; subst hv2
    refine B_X11_name_16  (fun hc => ?_) (fun hc => ?_)
    · rw [if_pos hc] at h
      exact SC_X11_name_37 hd h
    · rw [if_neg hc] at h
      refine B_X11_name_19  (fun hc => ?_) (fun hc => ?_)
      · rw [if_pos hc] at h
        exact SC_X11_name_37 hd h
      · rw [if_neg hc] at h
        obtain ⟨q3, hq, h⟩ := sw_bnd h
        refine B_X11_name_30  (FC_X11_isOwnHere (Nat.le_refl _) hq) (Nat.lt_of_lt_of_le (by decide) hd) (fun v s hvs => ?_)
        obtain ⟨hv1, hv2⟩ := hvs; subst hv1; subst hv2
        refine B_X11_name_34  (fun hc => ?_) (fun hc => ?_)
        · rw [if_pos hc] at h
          refine B_X11_name_48  ?_
          exact LC_X11_name_58 hd _ _ _ h
        · rw [if_neg hc] at h
          exact SC_X11_name_37 hd h
  · rw [if_neg hc] at h
    cases h
    exact B_X11_name_7  ⟨_, rfl, rfl, rfl⟩
/-! StrayWoolModel.isAllowed(I)Z -/
noncomputable def S_X11_isAllowed_43 (σ : sw_St) (sx0 : Int32) : Option (Int32 × sw_St) :=
  if sx0 = 0 ∨ sx0 = 1 then some (sx0, σ) else none
theorem SC_X11_isAllowed_43 {E : sw_E} {d : Nat} (hd : 1 ≤ d) {p : Int32 × sw_St} {σ : sw_St} {sx0 : Int32} (h : S_X11_isAllowed_43 σ sx0 = some p) : sw_W E sw_gM m_X11_isAllowed d 43 [] [.int sx0] σ (sw_pI p) := by
  unfold S_X11_isAllowed_43 at h
  obtain ⟨hz, h⟩ := sw_ifs h
  cases h
  exact B_X11_isAllowed_43  hz ⟨_, rfl, rfl, rfl⟩
noncomputable def S_X11_isAllowed_54 (σ : sw_St) (sx0 : Int32) : Option (Int32 × sw_St) :=
  if sx0 = 0 ∨ sx0 = 1 then some (sx0, σ) else none
theorem SC_X11_isAllowed_54 {E : sw_E} {d : Nat} (hd : 1 ≤ d) {p : Int32 × sw_St} {σ : sw_St} {sx0 : Int32} (h : S_X11_isAllowed_54 σ sx0 = some p) : sw_W E sw_gM m_X11_isAllowed d 54 [] [.int sx0] σ (sw_pI p) := by
  unfold S_X11_isAllowed_54 at h
  obtain ⟨hz, h⟩ := sw_ifs h
  cases h
  exact B_X11_isAllowed_54  hz ⟨_, rfl, rfl, rfl⟩
noncomputable def S_X11_isAllowed_79 (σ : sw_St) (sx0 : Int32) : Option (Int32 × sw_St) :=
  if sx0 = 0 ∨ sx0 = 1 then some (sx0, σ) else none
theorem SC_X11_isAllowed_79 {E : sw_E} {d : Nat} (hd : 1 ≤ d) {p : Int32 × sw_St} {σ : sw_St} {sx0 : Int32} (h : S_X11_isAllowed_79 σ sx0 = some p) : sw_W E sw_gM m_X11_isAllowed d 79 [] [.int sx0] σ (sw_pI p) := by
  unfold S_X11_isAllowed_79 at h
  obtain ⟨hz, h⟩ := sw_ifs h
  cases h
  exact B_X11_isAllowed_79  hz ⟨_, rfl, rfl, rfl⟩
noncomputable def S_X11_isAllowed_74 (σ : sw_St) : Option (Int32 × sw_St) :=
  S_X11_isAllowed_79 σ 1
theorem SC_X11_isAllowed_74 {E : sw_E} {d : Nat} (hd : 1 ≤ d) {p : Int32 × sw_St} {σ : sw_St} (h : S_X11_isAllowed_74 σ  = some p) : sw_W E sw_gM m_X11_isAllowed d 74 [] [] σ (sw_pI p) := by
  unfold S_X11_isAllowed_74 at h
  refine B_X11_isAllowed_74  ?_
  exact SC_X11_isAllowed_79 hd h
noncomputable def S_X11_isAllowed_95 (σ : sw_St) (sx0 : Int32) : Option (Int32 × sw_St) :=
  if sx0 = 0 ∨ sx0 = 1 then some (sx0, σ) else none
theorem SC_X11_isAllowed_95 {E : sw_E} {d : Nat} (hd : 1 ≤ d) {p : Int32 × sw_St} {σ : sw_St} {sx0 : Int32} (h : S_X11_isAllowed_95 σ sx0 = some p) : sw_W E sw_gM m_X11_isAllowed d 95 [] [.int sx0] σ (sw_pI p) := by
  unfold S_X11_isAllowed_95 at h
  obtain ⟨hz, h⟩ := sw_ifs h
  cases h
  exact B_X11_isAllowed_95  hz ⟨_, rfl, rfl, rfl⟩
noncomputable def S_X11_isAllowed_90 (σ : sw_St) : Option (Int32 × sw_St) :=
  S_X11_isAllowed_95 σ 1
theorem SC_X11_isAllowed_90 {E : sw_E} {d : Nat} (hd : 1 ≤ d) {p : Int32 × sw_St} {σ : sw_St} (h : S_X11_isAllowed_90 σ  = some p) : sw_W E sw_gM m_X11_isAllowed d 90 [] [] σ (sw_pI p) := by
  unfold S_X11_isAllowed_90 at h
  refine B_X11_isAllowed_90  ?_
  exact SC_X11_isAllowed_95 hd h
noncomputable def F_X11_isAllowed (σ : sw_St) (x1 : Int32) : Option (Int32 × sw_St) :=
  if (σ.1 0 48) = 0 then (if 6 ≤ x1 then (S_X11_isAllowed_43 σ 0) else (S_X11_isAllowed_43 σ 1)) else if (σ.1 0 48) = 1 then (if 5 ≤ x1 then (S_X11_isAllowed_54 σ 0) else (S_X11_isAllowed_54 σ 1)) else if (σ.1 0 48) = 2 then (if x1 < 3 then (S_X11_isAllowed_74 σ ) else ((F_X11_isIn σ x1.toInt64 6 7).bind fun q1 => if q1.1 = 0 then (S_X11_isAllowed_79 q1.2 0) else (S_X11_isAllowed_74 q1.2 ))) else (if x1 < 3 then (S_X11_isAllowed_90 σ ) else (if x1 ≤ 5 then (S_X11_isAllowed_95 σ 0) else (S_X11_isAllowed_90 σ )))
theorem FC_X11_isAllowed {E : sw_E} {d : Nat} (hd : 1 ≤ d) {p : Int32 × sw_St} {σ : sw_St} {x1 : Int32} (h : F_X11_isAllowed σ x1 = some p) : sw_KI E sw_gM m_X11_isAllowed d [.ref 0, .int x1] σ (fun v s => v = p.1 ∧ s = p.2) := by
  unfold F_X11_isAllowed at h
  refine sw_K.of (by decide +kernel) rfl (Nat.le_of_ble_eq_true rfl) ?_
  show sw_W E sw_gM m_X11_isAllowed d 0 [(0, .ref 0), (1, .int x1)] [] σ (sw_pI p)
  refine B_X11_isAllowed_0  (fun hc => ?_) (fun hc => ?_) (fun hc => ?_) (fun n0 n1 n2 => ?_)
  · rw [if_pos hc] at h
    refine B_X11_isAllowed_32  (fun hc => ?_) (fun hc => ?_)
    · rw [if_pos hc] at h
      refine B_X11_isAllowed_42  ?_
      exact SC_X11_isAllowed_43 hd h
    · rw [if_neg hc] at h
      refine B_X11_isAllowed_38  ?_
      exact SC_X11_isAllowed_43 hd h
  · rw [if_neg (fun z => absurd (hc.symm.trans z) (by decide)), if_pos hc] at h
    refine B_X11_isAllowed_44  (fun hc => ?_) (fun hc => ?_)
    · rw [if_pos hc] at h
      refine B_X11_isAllowed_53  ?_
      exact SC_X11_isAllowed_54 hd h
    · rw [if_neg hc] at h
      refine B_X11_isAllowed_49  ?_
      exact SC_X11_isAllowed_54 hd h
  · rw [if_neg (fun z => absurd (hc.symm.trans z) (by decide)), if_neg (fun z => absurd (hc.symm.trans z) (by decide)), if_pos hc] at h
    refine B_X11_isAllowed_55  (fun hc => ?_) (fun hc => ?_)
    · rw [if_pos hc] at h
      exact SC_X11_isAllowed_74 hd h
    · rw [if_neg hc] at h
      obtain ⟨q1, hq, h⟩ := sw_bnd h
      refine B_X11_isAllowed_60  (FC_X11_isIn (Nat.le_refl _) hq) (Nat.lt_of_lt_of_le (by decide) hd) (fun v s hvs => ?_)
      obtain ⟨hv1, hv2⟩ := hvs; subst hv1; subst hv2
      refine B_X11_isAllowed_71  (fun hc => ?_) (fun hc => ?_)
      · rw [if_pos hc] at h
        refine B_X11_isAllowed_78  ?_
        exact SC_X11_isAllowed_79 hd h
      · rw [if_neg hc] at h
        exact SC_X11_isAllowed_74 hd h
  · rw [if_neg n0, if_neg n1, if_neg n2] at h
    refine B_X11_isAllowed_80  (fun hc => ?_) (fun hc => ?_)
    · rw [if_pos hc] at h
      exact SC_X11_isAllowed_90 hd h
    · rw [if_neg hc] at h
      refine B_X11_isAllowed_85  (fun hc => ?_) (fun hc => ?_)
      · rw [if_pos hc] at h
        refine B_X11_isAllowed_94  ?_
        exact SC_X11_isAllowed_95 hd h
      · rw [if_neg hc] at h
        exact SC_X11_isAllowed_90 hd h
/-! StrayWoolModel.isFull(III)Z -/
noncomputable def S_X11_isFull_35 (σ : sw_St) (sx0 : Int32) : Option (Int32 × sw_St) :=
  if sx0 = 0 ∨ sx0 = 1 then some (sx0, σ) else none
theorem SC_X11_isFull_35 {E : sw_E} {d : Nat} (hd : 1 ≤ d) {p : Int32 × sw_St} {σ : sw_St} {sx0 : Int32} (h : S_X11_isFull_35 σ sx0 = some p) : sw_W E sw_gM m_X11_isFull d 35 [] [.int sx0] σ (sw_pI p) := by
  unfold S_X11_isFull_35 at h
  obtain ⟨hz, h⟩ := sw_ifs h
  cases h
  exact B_X11_isFull_35  hz ⟨_, rfl, rfl, rfl⟩
noncomputable def S_X11_isFull_23 (σ : sw_St) : Option (Int32 × sw_St) :=
  if (σ.1 0 5) = 0 then (S_X11_isFull_35 σ 0) else (S_X11_isFull_35 σ 1)
theorem SC_X11_isFull_23 {E : sw_E} {d : Nat} (hd : 1 ≤ d) {p : Int32 × sw_St} {σ : sw_St} (h : S_X11_isFull_23 σ  = some p) : sw_W E sw_gM m_X11_isFull d 23 [(0, .ref 0)] [] σ (sw_pI p) := by
  unfold S_X11_isFull_23 at h
  refine B_X11_isFull_23  (fun hc => ?_) (fun hc => ?_)
  · rw [if_pos hc] at h
    refine B_X11_isFull_34  ?_
    exact SC_X11_isFull_35 hd h
  · rw [if_neg hc] at h
    refine B_X11_isFull_30  ?_
    exact SC_X11_isFull_35 hd h
noncomputable def F_X11_isFull (σ : sw_St) (x1 : Int32) (x2 : Int32) (x3 : Int32) : Option (Int32 × sw_St) :=
  if (σ.1 0 5) = 0 then (if sw_inb x1 8 = true then (if (σ.1 28 x1.toNatClampNeg) = x2 then ((F_X11_fail σ 5 x3).bind fun q2 => S_X11_isFull_23 q2.2 ) else (S_X11_isFull_23 σ )) else none) else (S_X11_isFull_23 σ )
theorem FC_X11_isFull {E : sw_E} {d : Nat} (hd : 1 ≤ d) {p : Int32 × sw_St} {σ : sw_St} {x1 : Int32} {x2 : Int32} {x3 : Int32} (h : F_X11_isFull σ x1 x2 x3 = some p) : sw_KI E sw_gM m_X11_isFull d [.ref 0, .int x1, .int x2, .int x3] σ (fun v s => v = p.1 ∧ s = p.2) := by
  unfold F_X11_isFull at h
  refine sw_K.of (by decide +kernel) rfl (Nat.le_of_ble_eq_true rfl) ?_
  show sw_W E sw_gM m_X11_isFull d 0 [(0, .ref 0), (1, .int x1), (2, .int x2), (3, .int x3)] [] σ (sw_pI p)
  refine B_X11_isFull_0  (fun hc => ?_) (fun hc => ?_)
  · rw [if_neg hc] at h
    exact SC_X11_isFull_23 hd h
  · rw [if_pos hc] at h
    obtain ⟨o1, h⟩ := sw_ifs h
    refine B_X11_isFull_7 (sw_inb_sp o1) (fun hc => ?_) (fun hc => ?_)
    · rw [if_neg hc] at h
      exact SC_X11_isFull_23 hd h
    · rw [if_pos hc] at h
      obtain ⟨q2, hq, h⟩ := sw_bnd h
      refine B_X11_isFull_17  (FC_X11_fail (Nat.le_refl _) hq) (Nat.lt_of_lt_of_le (by decide) hd) (fun s hvs => ?_)
      subst hvs
      exact SC_X11_isFull_23 hd h
/-! StrayWoolModel.newName()J -/
noncomputable def S_X11_newName_59 (c7 : sw_St → Int64 → Int32 → Option (Int64 × sw_St)) (c15 : sw_St → Int64 → Int32 → Int32 → Option (Int64 × sw_St)) (σ : sw_St) (y1 : Int64) (x3 : Int32) (x4 : Int32) : Option (Int64 × sw_St) :=
  c15 σ y1 x3 (x4 + 1)
theorem SC_X11_newName_59 {E : sw_E} {d : Nat} (hd : 4 ≤ d) {p : Int64 × sw_St} {c7 : sw_St → Int64 → Int32 → Option (Int64 × sw_St)} {c15 : sw_St → Int64 → Int32 → Int32 → Option (Int64 × sw_St)} (h7 : ∀ (σ : sw_St) (y1 : Int64) (x3 : Int32), c7 σ y1 x3 = some p → sw_W E sw_gM m_X11_newName d 7 [(0, .ref 0), (1, .long y1), (3, .int x3)] [] σ (sw_pL p)) (h15 : ∀ (σ : sw_St) (y1 : Int64) (x3 : Int32) (x4 : Int32), c15 σ y1 x3 x4 = some p → sw_W E sw_gM m_X11_newName d 15 [(0, .ref 0), (1, .long y1), (3, .int x3), (4, .int x4)] [] σ (sw_pL p)) {σ : sw_St} {y1 : Int64} {x3 : Int32} {x4 : Int32} (h : S_X11_newName_59 c7 c15 σ y1 x3 x4 = some p) : sw_W E sw_gM m_X11_newName d 59 [(0, .ref 0), (1, .long y1), (3, .int x3), (4, .int x4)] [] σ (sw_pL p) := by
  unfold S_X11_newName_59 at h
  refine B_X11_newName_59  ?_
  exact h15 _ _ _ _ h
noncomputable def S_X11_newName_15 (c7 : sw_St → Int64 → Int32 → Option (Int64 × sw_St)) (c15 : sw_St → Int64 → Int32 → Int32 → Option (Int64 × sw_St)) (σ : sw_St) (y1 : Int64) (x3 : Int32) (x4 : Int32) : Option (Int64 × sw_St) :=
  if sw_inb x3 8 = true then (if (σ.1 28 x3.toNatClampNeg) ≤ x4 then (c7 σ y1 (x3 + 1)) else (if (σ.1 0 5) = 0 then (if sw_inb ((8 * x3) + x4) 32 = true then (if (lg_cmp (σ.2.1 29 (((8 * x3) + x4).toNatClampNeg)) y1) = 0 then ((F_X11_fail σ 3 (σ.1 0 36)).bind fun q3 => S_X11_newName_59 c7 c15 q3.2 y1 x3 x4) else (S_X11_newName_59 c7 c15 σ y1 x3 x4)) else none) else (S_X11_newName_59 c7 c15 σ y1 x3 x4))) else none
theorem SC_X11_newName_15 {E : sw_E} {d : Nat} (hd : 4 ≤ d) {p : Int64 × sw_St} {c7 : sw_St → Int64 → Int32 → Option (Int64 × sw_St)} {c15 : sw_St → Int64 → Int32 → Int32 → Option (Int64 × sw_St)} (h7 : ∀ (σ : sw_St) (y1 : Int64) (x3 : Int32), c7 σ y1 x3 = some p → sw_W E sw_gM m_X11_newName d 7 [(0, .ref 0), (1, .long y1), (3, .int x3)] [] σ (sw_pL p)) (h15 : ∀ (σ : sw_St) (y1 : Int64) (x3 : Int32) (x4 : Int32), c15 σ y1 x3 x4 = some p → sw_W E sw_gM m_X11_newName d 15 [(0, .ref 0), (1, .long y1), (3, .int x3), (4, .int x4)] [] σ (sw_pL p)) {σ : sw_St} {y1 : Int64} {x3 : Int32} {x4 : Int32} (h : S_X11_newName_15 c7 c15 σ y1 x3 x4 = some p) : sw_W E sw_gM m_X11_newName d 15 [(0, .ref 0), (1, .long y1), (3, .int x3), (4, .int x4)] [] σ (sw_pL p) := by
  unfold S_X11_newName_15 at h
  obtain ⟨o1, h⟩ := sw_ifs h
  refine B_X11_newName_15 (sw_inb_sp o1) (fun hc => ?_) (fun hc => ?_)
  · rw [if_pos hc] at h
    refine B_X11_newName_65  ?_
    exact h7 _ _ _ h
  · rw [if_neg hc] at h
    refine B_X11_newName_26  (fun hc => ?_) (fun hc => ?_)
    · rw [if_neg hc] at h
      exact SC_X11_newName_59 hd h7 h15 h
    · rw [if_pos hc] at h
      obtain ⟨o2, h⟩ := sw_ifs h
      refine B_X11_newName_33 (sw_inb_sp o2) (fun hc => ?_) (fun hc => ?_)
      · rw [if_neg hc] at h
        exact SC_X11_newName_59 hd h7 h15 h
      · rw [if_pos hc] at h
        obtain ⟨q3, hq, h⟩ := sw_bnd h
        refine B_X11_newName_50  (FC_X11_fail (Nat.le_refl _) hq) (Nat.lt_of_lt_of_le (by decide) hd) (fun s hvs => ?_)
        subst hvs
        exact SC_X11_newName_59 hd h7 h15 h
noncomputable def L_X11_newName_15 (c7 : sw_St → Int64 → Int32 → Option (Int64 × sw_St)) : Nat → sw_St → Int64 → Int32 → Int32 → Option (Int64 × sw_St)
  | 0, _, _, _, _ => none
  | k + 1, σ, y1, x3, x4 => S_X11_newName_15 c7 (fun σ y1 x3 x4 => L_X11_newName_15 c7 k σ y1 x3 x4) σ y1 x3 x4
theorem LC_X11_newName_15 {E : sw_E} {d : Nat} (hd : 4 ≤ d) {p : Int64 × sw_St} {c7 : sw_St → Int64 → Int32 → Option (Int64 × sw_St)} (h7 : ∀ (σ : sw_St) (y1 : Int64) (x3 : Int32), c7 σ y1 x3 = some p → sw_W E sw_gM m_X11_newName d 7 [(0, .ref 0), (1, .long y1), (3, .int x3)] [] σ (sw_pL p)) : ∀ (k : Nat) (σ : sw_St) (y1 : Int64) (x3 : Int32) (x4 : Int32), L_X11_newName_15 c7 k σ y1 x3 x4 = some p → sw_W E sw_gM m_X11_newName d 15 [(0, .ref 0), (1, .long y1), (3, .int x3), (4, .int x4)] [] σ (sw_pL p) := by
  intro k
  induction k with
  | zero => intro σ y1 x3 x4 h; cases h
  | succ k ih => intro σ y1 x3 x4 h; exact SC_X11_newName_15 hd h7 ih h
noncomputable def S_X11_newName_7 (c7 : sw_St → Int64 → Int32 → Option (Int64 × sw_St)) (σ : sw_St) (y1 : Int64) (x3 : Int32) : Option (Int64 × sw_St) :=
  if 2 ≤ x3 then (some (y1, σ)) else (L_X11_newName_15 c7 sw_fuel σ y1 x3 0)
theorem SC_X11_newName_7 {E : sw_E} {d : Nat} (hd : 4 ≤ d) {p : Int64 × sw_St} {c7 : sw_St → Int64 → Int32 → Option (Int64 × sw_St)} (h7 : ∀ (σ : sw_St) (y1 : Int64) (x3 : Int32), c7 σ y1 x3 = some p → sw_W E sw_gM m_X11_newName d 7 [(0, .ref 0), (1, .long y1), (3, .int x3)] [] σ (sw_pL p)) {σ : sw_St} {y1 : Int64} {x3 : Int32} (h : S_X11_newName_7 c7 σ y1 x3 = some p) : sw_W E sw_gM m_X11_newName d 7 [(0, .ref 0), (1, .long y1), (3, .int x3)] [] σ (sw_pL p) := by
  unfold S_X11_newName_7 at h
  refine B_X11_newName_7  (fun hc => ?_) (fun hc => ?_)
  · rw [if_pos hc] at h
    cases h
    exact B_X11_newName_71  ⟨_, rfl, rfl, rfl⟩
  · rw [if_neg hc] at h
    refine B_X11_newName_12  ?_
    exact LC_X11_newName_15 hd h7 _ _ _ _ _ h
noncomputable def L_X11_newName_7 : Nat → sw_St → Int64 → Int32 → Option (Int64 × sw_St)
  | 0, _, _, _ => none
  | k + 1, σ, y1, x3 => S_X11_newName_7 (fun σ y1 x3 => L_X11_newName_7 k σ y1 x3) σ y1 x3
theorem LC_X11_newName_7 {E : sw_E} {d : Nat} (hd : 4 ≤ d) {p : Int64 × sw_St} : ∀ (k : Nat) (σ : sw_St) (y1 : Int64) (x3 : Int32), L_X11_newName_7 k σ y1 x3 = some p → sw_W E sw_gM m_X11_newName d 7 [(0, .ref 0), (1, .long y1), (3, .int x3)] [] σ (sw_pL p) := by
  intro k
  induction k with
  | zero => intro σ y1 x3 h; cases h
  | succ k ih => intro σ y1 x3 h; exact SC_X11_newName_7 hd ih h
noncomputable def F_X11_newName (σ : sw_St) : Option (Int64 × sw_St) :=
  (F_X11_name σ ).bind fun q1 => L_X11_newName_7 sw_fuel q1.2 q1.1 0
theorem FC_X11_newName {E : sw_E} {d : Nat} (hd : 4 ≤ d) {p : Int64 × sw_St} {σ : sw_St} (h : F_X11_newName σ  = some p) : sw_KL E sw_gM m_X11_newName d [.ref 0] σ (fun v s => v = p.1 ∧ s = p.2) := by
  unfold F_X11_newName at h
  refine sw_K.of (by decide +kernel) rfl (Nat.le_of_ble_eq_true rfl) ?_
  show sw_W E sw_gM m_X11_newName d 0 [(0, .ref 0)] [] σ (sw_pL p)
  obtain ⟨q1, hq, h⟩ := sw_bnd h
  refine B_X11_newName_0  (FC_X11_name (Nat.le_refl _) hq) (Nat.lt_of_lt_of_le (by decide) hd) (fun v s hvs => ?_)
  obtain ⟨hv1, hv2⟩ := hvs; subst hv1; subst hv2
  refine B_X11_newName_4  ?_
  exact LC_X11_newName_7 hd _ _ _ _ h
/-! StrayWoolModel.fieldNamed(I)I -/
noncomputable def S_X11_fieldNamed_62 (σ : sw_St) : Option (Int32 × sw_St) :=
  some (0, σ)
theorem SC_X11_fieldNamed_62 {E : sw_E} {d : Nat} (hd : 4 ≤ d) {p : Int32 × sw_St} {σ : sw_St} (h : S_X11_fieldNamed_62 σ  = some p) : sw_W E sw_gM m_X11_fieldNamed d 62 [] [] σ (sw_pI p) := by
  unfold S_X11_fieldNamed_62 at h
  cases h
  exact B_X11_fieldNamed_62  ⟨_, rfl, rfl, rfl⟩
noncomputable def S_X11_fieldNamed_40 (c8 : sw_St → Int32 → Int64 → Int32 → Option (Int32 × sw_St)) (σ : sw_St) (x1 : Int32) (y2 : Int64) (x4 : Int32) : Option (Int32 × sw_St) :=
  c8 σ x1 y2 (x4 + 1)
theorem SC_X11_fieldNamed_40 {E : sw_E} {d : Nat} (hd : 4 ≤ d) {p : Int32 × sw_St} {c8 : sw_St → Int32 → Int64 → Int32 → Option (Int32 × sw_St)} (h8 : ∀ (σ : sw_St) (x1 : Int32) (y2 : Int64) (x4 : Int32), c8 σ x1 y2 x4 = some p → sw_W E sw_gM m_X11_fieldNamed d 8 [(0, .ref 0), (1, .int x1), (2, .long y2), (4, .int x4)] [] σ (sw_pI p)) {σ : sw_St} {x1 : Int32} {y2 : Int64} {x4 : Int32} (h : S_X11_fieldNamed_40 c8 σ x1 y2 x4 = some p) : sw_W E sw_gM m_X11_fieldNamed d 40 [(0, .ref 0), (1, .int x1), (2, .long y2), (4, .int x4)] [] σ (sw_pI p) := by
  unfold S_X11_fieldNamed_40 at h
  refine B_X11_fieldNamed_40  ?_
  exact h8 _ _ _ _ h
noncomputable def S_X11_fieldNamed_8 (c8 : sw_St → Int32 → Int64 → Int32 → Option (Int32 × sw_St)) (σ : sw_St) (x1 : Int32) (y2 : Int64) (x4 : Int32) : Option (Int32 × sw_St) :=
  if (σ.1 28 0) ≤ x4 then (if (σ.1 0 5) = 0 then ((F_X11_fail σ 3 (σ.1 0 36)).bind fun q1 => S_X11_fieldNamed_62 q1.2 ) else (S_X11_fieldNamed_62 σ )) else (if x4 = x1 then (S_X11_fieldNamed_40 c8 σ x1 y2 x4) else (if sw_inb x4 32 = true then (if (lg_cmp (σ.2.1 29 x4.toNatClampNeg) y2) = 0 then (some (x4, σ)) else (S_X11_fieldNamed_40 c8 σ x1 y2 x4)) else none))
theorem SC_X11_fieldNamed_8 {E : sw_E} {d : Nat} (hd : 4 ≤ d) {p : Int32 × sw_St} {c8 : sw_St → Int32 → Int64 → Int32 → Option (Int32 × sw_St)} (h8 : ∀ (σ : sw_St) (x1 : Int32) (y2 : Int64) (x4 : Int32), c8 σ x1 y2 x4 = some p → sw_W E sw_gM m_X11_fieldNamed d 8 [(0, .ref 0), (1, .int x1), (2, .long y2), (4, .int x4)] [] σ (sw_pI p)) {σ : sw_St} {x1 : Int32} {y2 : Int64} {x4 : Int32} (h : S_X11_fieldNamed_8 c8 σ x1 y2 x4 = some p) : sw_W E sw_gM m_X11_fieldNamed d 8 [(0, .ref 0), (1, .int x1), (2, .long y2), (4, .int x4)] [] σ (sw_pI p) := by
  unfold S_X11_fieldNamed_8 at h
  refine B_X11_fieldNamed_8  (fun hc => ?_) (fun hc => ?_)
  · rw [if_pos hc] at h
    refine B_X11_fieldNamed_46  (fun hc => ?_) (fun hc => ?_)
    · rw [if_neg hc] at h
      exact SC_X11_fieldNamed_62 hd h
    · rw [if_pos hc] at h
      obtain ⟨q1, hq, h⟩ := sw_bnd h
      refine B_X11_fieldNamed_53  (FC_X11_fail (Nat.le_refl _) hq) (Nat.lt_of_lt_of_le (by decide) hd) (fun s hvs => ?_)
      subst hvs
      exact SC_X11_fieldNamed_62 hd h
  · rw [if_neg hc] at h
    refine B_X11_fieldNamed_19  (fun hc => ?_) (fun hc => ?_)
    · rw [if_pos hc] at h
      exact SC_X11_fieldNamed_40 hd h8 h
    · rw [if_neg hc] at h
      obtain ⟨o2, h⟩ := sw_ifs h
      refine B_X11_fieldNamed_25 (sw_inb_sp o2) (fun hc => ?_) (fun hc => ?_)
      · rw [if_neg hc] at h
        exact SC_X11_fieldNamed_40 hd h8 h
      · rw [if_pos hc] at h
        cases h
        exact B_X11_fieldNamed_37  ⟨_, rfl, rfl, rfl⟩
noncomputable def L_X11_fieldNamed_8 : Nat → sw_St → Int32 → Int64 → Int32 → Option (Int32 × sw_St)
  | 0, _, _, _, _ => none
  | k + 1, σ, x1, y2, x4 => S_X11_fieldNamed_8 (fun σ x1 y2 x4 => L_X11_fieldNamed_8 k σ x1 y2 x4) σ x1 y2 x4
theorem LC_X11_fieldNamed_8 {E : sw_E} {d : Nat} (hd : 4 ≤ d) {p : Int32 × sw_St} : ∀ (k : Nat) (σ : sw_St) (x1 : Int32) (y2 : Int64) (x4 : Int32), L_X11_fieldNamed_8 k σ x1 y2 x4 = some p → sw_W E sw_gM m_X11_fieldNamed d 8 [(0, .ref 0), (1, .int x1), (2, .long y2), (4, .int x4)] [] σ (sw_pI p) := by
  intro k
  induction k with
  | zero => intro σ x1 y2 x4 h; cases h
  | succ k ih => intro σ x1 y2 x4 h; exact SC_X11_fieldNamed_8 hd ih h
noncomputable def F_X11_fieldNamed (σ : sw_St) (x1 : Int32) : Option (Int32 × sw_St) :=
  (F_X11_name σ ).bind fun q1 => L_X11_fieldNamed_8 sw_fuel q1.2 x1 q1.1 0
theorem FC_X11_fieldNamed {E : sw_E} {d : Nat} (hd : 4 ≤ d) {p : Int32 × sw_St} {σ : sw_St} {x1 : Int32} (h : F_X11_fieldNamed σ x1 = some p) : sw_KI E sw_gM m_X11_fieldNamed d [.ref 0, .int x1] σ (fun v s => v = p.1 ∧ s = p.2) := by
  unfold F_X11_fieldNamed at h
  refine sw_K.of (by decide +kernel) rfl (Nat.le_of_ble_eq_true rfl) ?_
  show sw_W E sw_gM m_X11_fieldNamed d 0 [(0, .ref 0), (1, .int x1)] [] σ (sw_pI p)
  obtain ⟨q1, hq, h⟩ := sw_bnd h
  refine B_X11_fieldNamed_0  (FC_X11_name (Nat.le_refl _) hq) (Nat.lt_of_lt_of_le (by decide) hd) (fun v s hvs => ?_)
  obtain ⟨hv1, hv2⟩ := hvs; subst hv1; subst hv2
  refine B_X11_fieldNamed_4  ?_
  exact LC_X11_fieldNamed_8 hd _ _ _ _ _ h
/-! StrayWoolModel.fieldTold(I)V -/
noncomputable def F_X11_fieldTold (σ : sw_St) (x1 : Int32) : Option (Unit × sw_St) :=
  (F_X11_isFull σ 0 8 x1).bind fun q1 => if q1.1 = 0 then ((F_X11_newName q1.2 ).bind fun q2 => (F_X11_asks q2.2 4).bind fun q3 => (F_X11_number q3.2 0 9).bind fun q4 => if (q4.2.1 0 5) = 0 then (if sw_inb (q4.2.1 28 0) 32 = true then (if sw_inb (q4.2.1 28 0) 16 = true then (some ((), (sw_uI (sw_uI (sw_uL q4.2 29 ((q4.2.1 28 0).toNatClampNeg) q2.1) 30 ((q4.2.1 28 0).toNatClampNeg) q4.1) 28 0 ((q4.2.1 28 0) + 1)))) else none) else none) else (some ((), q4.2))) else (some ((), q1.2))
theorem FC_X11_fieldTold {E : sw_E} {d : Nat} (hd : 5 ≤ d) {p : Unit × sw_St} {σ : sw_St} {x1 : Int32} (h : F_X11_fieldTold σ x1 = some p) : sw_KV E sw_gM m_X11_fieldTold d [.ref 0, .int x1] σ (fun s => s = p.2) := by
  unfold F_X11_fieldTold at h
  refine sw_K.of (by decide +kernel) rfl (Nat.le_of_ble_eq_true rfl) ?_
  show sw_W E sw_gM m_X11_fieldTold d 0 [(0, .ref 0), (1, .int x1)] [] σ (sw_pV p)
  obtain ⟨q1, hq, h⟩ := sw_bnd h
  refine B_X11_fieldTold_0  (FC_X11_isFull (Nat.le_refl _) hq) (Nat.lt_of_lt_of_le (by decide) hd) (fun v s hvs => ?_)
  obtain ⟨hv1, hv2⟩ := hvs; subst hv1; subst hv2
  refine B_X11_fieldTold_8  (fun hc => ?_) (fun hc => ?_)
  · rw [if_pos hc] at h
    obtain ⟨q2, hq, h⟩ := sw_bnd h
    refine B_X11_fieldTold_12  (FC_X11_newName (Nat.le_refl _) hq) (Nat.lt_of_lt_of_le (by decide) hd) (fun v s hvs => ?_)
    obtain ⟨hv1, hv2⟩ := hvs; subst hv1; subst hv2
    obtain ⟨q3, hq, h⟩ := sw_bnd h
    refine B_X11_fieldTold_16  (FC_X11_asks (Nat.le_refl _) hq) (Nat.lt_of_lt_of_le (by decide) hd) (fun s hvs => ?_)
    subst hvs
    obtain ⟨q4, hq, h⟩ := sw_bnd h
    refine B_X11_fieldTold_25  (FC_X11_number (Nat.le_refl _) hq) (Nat.lt_of_lt_of_le (by decide) hd) (fun v s hvs => ?_)
    obtain ⟨hv1, hv2⟩ := hvs; subst hv1; subst hv2
    refine B_X11_fieldTold_32  (fun hc => ?_) (fun hc => ?_)
    · rw [if_pos hc] at h
      obtain ⟨o5, h⟩ := sw_ifs h
      obtain ⟨o6, h⟩ := sw_ifs h
      cases h
      exact B_X11_fieldTold_42 (sw_inb_sp o5) (sw_inb_sp o6) ⟨rfl, rfl⟩
    · rw [if_neg hc] at h
      cases h
      exact B_X11_fieldTold_41  ⟨rfl, rfl⟩
  · rw [if_neg hc] at h
    cases h
    exact B_X11_fieldTold_11  ⟨rfl, rfl⟩
/-! StrayWoolModel.gapTold(I)V -/
noncomputable def F_X11_gapTold (σ : sw_St) (x1 : Int32) : Option (Unit × sw_St) :=
  (F_X11_isFull σ 2 10 x1).bind fun q1 => if q1.1 = 0 then ((F_X11_fieldNamed q1.2 (-1)).bind fun q2 => (F_X11_asks q2.2 6).bind fun q3 => (F_X11_fieldNamed q3.2 q2.1).bind fun q4 => (F_X11_asks q4.2 7).bind fun q5 => (F_X11_number q5.2 1 9).bind fun q6 => if (q6.2.1 0 5) = 0 then (if sw_inb (3 * (q6.2.1 28 2)) 60 = true then (if sw_inb ((3 * (q6.2.1 28 2)) + 1) 60 = true then (if sw_inb ((3 * (q6.2.1 28 2)) + 2) 60 = true then (if sw_inb (q6.2.1 28 2) 10 = true then (some ((), (sw_uI (sw_uI (sw_uI (sw_uI (sw_uI q6.2 31 ((3 * (q6.2.1 28 2)).toNatClampNeg) q2.1) 31 (((3 * (q6.2.1 28 2)) + 1).toNatClampNeg) q4.1) 31 (((3 * (q6.2.1 28 2)) + 2).toNatClampNeg) q6.1) 32 ((q6.2.1 28 2).toNatClampNeg) 1) 28 2 ((q6.2.1 28 2) + 1)))) else none) else none) else none) else none) else (some ((), q6.2))) else (some ((), q1.2))
theorem FC_X11_gapTold {E : sw_E} {d : Nat} (hd : 5 ≤ d) {p : Unit × sw_St} {σ : sw_St} {x1 : Int32} (h : F_X11_gapTold σ x1 = some p) : sw_KV E sw_gM m_X11_gapTold d [.ref 0, .int x1] σ (fun s => s = p.2) := by
  unfold F_X11_gapTold at h
  refine sw_K.of (by decide +kernel) rfl (Nat.le_of_ble_eq_true rfl) ?_
  show sw_W E sw_gM m_X11_gapTold d 0 [(0, .ref 0), (1, .int x1)] [] σ (sw_pV p)
  obtain ⟨q1, hq, h⟩ := sw_bnd h
  refine B_X11_gapTold_0  (FC_X11_isFull (Nat.le_refl _) hq) (Nat.lt_of_lt_of_le (by decide) hd) (fun v s hvs => ?_)
  obtain ⟨hv1, hv2⟩ := hvs; subst hv1; subst hv2
  refine B_X11_gapTold_8  (fun hc => ?_) (fun hc => ?_)
  · rw [if_pos hc] at h
    obtain ⟨q2, hq, h⟩ := sw_bnd h
    refine B_X11_gapTold_12  (FC_X11_fieldNamed (Nat.le_refl _) hq) (Nat.lt_of_lt_of_le (by decide) hd) (fun v s hvs => ?_)
    obtain ⟨hv1, hv2⟩ := hvs; subst hv1; subst hv2
    obtain ⟨q3, hq, h⟩ := sw_bnd h
    refine B_X11_gapTold_17  (FC_X11_asks (Nat.le_refl _) hq) (Nat.lt_of_lt_of_le (by decide) hd) (fun s hvs => ?_)
    subst hvs
    obtain ⟨q4, hq, h⟩ := sw_bnd h
    refine B_X11_gapTold_26  (FC_X11_fieldNamed (Nat.le_refl _) hq) (Nat.lt_of_lt_of_le (by decide) hd) (fun v s hvs => ?_)
    obtain ⟨hv1, hv2⟩ := hvs; subst hv1; subst hv2
    obtain ⟨q5, hq, h⟩ := sw_bnd h
    refine B_X11_gapTold_31  (FC_X11_asks (Nat.le_refl _) hq) (Nat.lt_of_lt_of_le (by decide) hd) (fun s hvs => ?_)
    subst hvs
    obtain ⟨q6, hq, h⟩ := sw_bnd h
    refine B_X11_gapTold_40  (FC_X11_number (Nat.le_refl _) hq) (Nat.lt_of_lt_of_le (by decide) hd) (fun v s hvs => ?_)
    obtain ⟨hv1, hv2⟩ := hvs; subst hv1; subst hv2
    refine B_X11_gapTold_47  (fun hc => ?_) (fun hc => ?_)
    · rw [if_pos hc] at h
      obtain ⟨o7, h⟩ := sw_ifs h
      obtain ⟨o8, h⟩ := sw_ifs h
      obtain ⟨o9, h⟩ := sw_ifs h
      obtain ⟨o10, h⟩ := sw_ifs h
      cases h
      exact B_X11_gapTold_57 (sw_inb_sp o7) (sw_inb_sp o8) (sw_inb_sp o9) (sw_inb_sp o10) ⟨rfl, rfl⟩
    · rw [if_neg hc] at h
      cases h
      exact B_X11_gapTold_56  ⟨rfl, rfl⟩
  · rw [if_neg hc] at h
    cases h
    exact B_X11_gapTold_11  ⟨rfl, rfl⟩
/-! StrayWoolModel.shutTold()V -/
noncomputable def S_X11_shutTold_53 (σ : sw_St) : Option (Unit × sw_St) :=
  some ((), σ)
theorem SC_X11_shutTold_53 {E : sw_E} {d : Nat} (hd : 2 ≤ d) {p : Unit × sw_St} {σ : sw_St} (h : S_X11_shutTold_53 σ  = some p) : sw_W E sw_gM m_X11_shutTold d 53 [] [] σ (sw_pV p) := by
  unfold S_X11_shutTold_53 at h
  cases h
  exact B_X11_shutTold_53  ⟨rfl, rfl⟩
noncomputable def S_X11_shutTold_39 (σ : sw_St) (x1 : Int32) : Option (Unit × sw_St) :=
  if (σ.1 0 5) = 0 then (if sw_inb x1 10 = true then (S_X11_shutTold_53 (sw_uI σ 32 x1.toNatClampNeg 0) ) else none) else (S_X11_shutTold_53 σ )
theorem SC_X11_shutTold_39 {E : sw_E} {d : Nat} (hd : 2 ≤ d) {p : Unit × sw_St} {σ : sw_St} {x1 : Int32} (h : S_X11_shutTold_39 σ x1 = some p) : sw_W E sw_gM m_X11_shutTold d 39 [(0, .ref 0), (1, .int x1)] [] σ (sw_pV p) := by
  unfold S_X11_shutTold_39 at h
  refine B_X11_shutTold_39  (fun hc => ?_) (fun hc => ?_)
  · rw [if_neg hc] at h
    exact SC_X11_shutTold_53 hd h
  · rw [if_pos hc] at h
    obtain ⟨o1, h⟩ := sw_ifs h
    refine B_X11_shutTold_46 (sw_inb_sp o1) ?_
    exact SC_X11_shutTold_53 hd h
noncomputable def F_X11_shutTold (σ : sw_St) : Option (Unit × sw_St) :=
  (F_X11_number σ 0 ((σ.1 28 2) - 1)).bind fun q1 => if (q1.2.1 0 5) = 0 then (if sw_inb q1.1 10 = true then (if (q1.2.1 32 q1.1.toNatClampNeg) = 0 then ((F_X11_fail q1.2 2 (q1.2.1 0 10)).bind fun q3 => S_X11_shutTold_39 q3.2 q1.1) else (S_X11_shutTold_39 q1.2 q1.1)) else none) else (S_X11_shutTold_39 q1.2 q1.1)
theorem FC_X11_shutTold {E : sw_E} {d : Nat} (hd : 2 ≤ d) {p : Unit × sw_St} {σ : sw_St} (h : F_X11_shutTold σ  = some p) : sw_KV E sw_gM m_X11_shutTold d [.ref 0] σ (fun s => s = p.2) := by
  unfold F_X11_shutTold at h
  refine sw_K.of (by decide +kernel) rfl (Nat.le_of_ble_eq_true rfl) ?_
  show sw_W E sw_gM m_X11_shutTold d 0 [(0, .ref 0)] [] σ (sw_pV p)
  obtain ⟨q1, hq, h⟩ := sw_bnd h
  refine B_X11_shutTold_0  (FC_X11_number (Nat.le_refl _) hq) (Nat.lt_of_lt_of_le (by decide) hd) (fun v s hvs => ?_)
  obtain ⟨hv1, hv2⟩ := hvs; subst hv1; subst hv2
  refine B_X11_shutTold_13  (fun hc => ?_) (fun hc => ?_)
  · rw [if_neg hc] at h
    exact SC_X11_shutTold_39 hd h
  · rw [if_pos hc] at h
    obtain ⟨o2, h⟩ := sw_ifs h
    refine B_X11_shutTold_21 (sw_inb_sp o2) (fun hc => ?_) (fun hc => ?_)
    · rw [if_neg hc] at h
      exact SC_X11_shutTold_39 hd h
    · rw [if_pos hc] at h
      obtain ⟨q3, hq, h⟩ := sw_bnd h
      refine B_X11_shutTold_30  (FC_X11_fail (Nat.le_refl _) hq) (Nat.lt_of_lt_of_le (by decide) hd) (fun s hvs => ?_)
      subst hvs
      exact SC_X11_shutTold_39 hd h
/-! StrayWoolModel.sheepTold(I)V -/
noncomputable def F_X11_sheepTold (σ : sw_St) (x1 : Int32) : Option (Unit × sw_St) :=
  (F_X11_isFull σ 1 6 x1).bind fun q1 => if q1.1 = 0 then ((F_X11_newName q1.2 ).bind fun q2 => (F_X11_asks q2.2 10).bind fun q3 => (F_X11_fieldNamed q3.2 (-1)).bind fun q4 => (F_X11_asks q4.2 11).bind fun q5 => (F_X11_number q5.2 0 9).bind fun q6 => if (q6.2.1 0 5) = 0 then (if sw_inb (8 + (q6.2.1 28 1)) 32 = true then (if sw_inb (2 * (q6.2.1 28 1)) 24 = true then (if sw_inb ((2 * (q6.2.1 28 1)) + 1) 24 = true then (some ((), (sw_uI (sw_uI (sw_uI (sw_uL q6.2 29 ((8 + (q6.2.1 28 1)).toNatClampNeg) q2.1) 33 ((2 * (q6.2.1 28 1)).toNatClampNeg) q4.1) 33 (((2 * (q6.2.1 28 1)) + 1).toNatClampNeg) q6.1) 28 1 ((q6.2.1 28 1) + 1)))) else none) else none) else none) else (some ((), q6.2))) else (some ((), q1.2))
theorem FC_X11_sheepTold {E : sw_E} {d : Nat} (hd : 5 ≤ d) {p : Unit × sw_St} {σ : sw_St} {x1 : Int32} (h : F_X11_sheepTold σ x1 = some p) : sw_KV E sw_gM m_X11_sheepTold d [.ref 0, .int x1] σ (fun s => s = p.2) := by
  unfold F_X11_sheepTold at h
  refine sw_K.of (by decide +kernel) rfl (Nat.le_of_ble_eq_true rfl) ?_
  show sw_W E sw_gM m_X11_sheepTold d 0 [(0, .ref 0), (1, .int x1)] [] σ (sw_pV p)
  obtain ⟨q1, hq, h⟩ := sw_bnd h
  refine B_X11_sheepTold_0  (FC_X11_isFull (Nat.le_refl _) hq) (Nat.lt_of_lt_of_le (by decide) hd) (fun v s hvs => ?_)
  obtain ⟨hv1, hv2⟩ := hvs; subst hv1; subst hv2
  refine B_X11_sheepTold_8  (fun hc => ?_) (fun hc => ?_)
  · rw [if_pos hc] at h
    obtain ⟨q2, hq, h⟩ := sw_bnd h
    refine B_X11_sheepTold_12  (FC_X11_newName (Nat.le_refl _) hq) (Nat.lt_of_lt_of_le (by decide) hd) (fun v s hvs => ?_)
    obtain ⟨hv1, hv2⟩ := hvs; subst hv1; subst hv2
    obtain ⟨q3, hq, h⟩ := sw_bnd h
    refine B_X11_sheepTold_16  (FC_X11_asks (Nat.le_refl _) hq) (Nat.lt_of_lt_of_le (by decide) hd) (fun s hvs => ?_)
    subst hvs
    obtain ⟨q4, hq, h⟩ := sw_bnd h
    refine B_X11_sheepTold_25  (FC_X11_fieldNamed (Nat.le_refl _) hq) (Nat.lt_of_lt_of_le (by decide) hd) (fun v s hvs => ?_)
    obtain ⟨hv1, hv2⟩ := hvs; subst hv1; subst hv2
    obtain ⟨q5, hq, h⟩ := sw_bnd h
    refine B_X11_sheepTold_30  (FC_X11_asks (Nat.le_refl _) hq) (Nat.lt_of_lt_of_le (by decide) hd) (fun s hvs => ?_)
    subst hvs
    obtain ⟨q6, hq, h⟩ := sw_bnd h
    refine B_X11_sheepTold_40  (FC_X11_number (Nat.le_refl _) hq) (Nat.lt_of_lt_of_le (by decide) hd) (fun v s hvs => ?_)
    obtain ⟨hv1, hv2⟩ := hvs; subst hv1; subst hv2
    refine B_X11_sheepTold_47  (fun hc => ?_) (fun hc => ?_)
    · rw [if_pos hc] at h
      obtain ⟨o7, h⟩ := sw_ifs h
      obtain ⟨o8, h⟩ := sw_ifs h
      obtain ⟨o9, h⟩ := sw_ifs h
      cases h
      exact B_X11_sheepTold_57 (sw_inb_sp o7) (sw_inb_sp o8) (sw_inb_sp o9) ⟨rfl, rfl⟩
    · rw [if_neg hc] at h
      cases h
      exact B_X11_sheepTold_56  ⟨rfl, rfl⟩
  · rw [if_neg hc] at h
    cases h
    exact B_X11_sheepTold_11  ⟨rfl, rfl⟩
/-! StrayWoolModel.stands()V -/
noncomputable def S_X11_stands_272 (c272 : sw_St → Int32 → Option (Unit × sw_St)) (σ : sw_St) (x1 : Int32) : Option (Unit × sw_St) :=
  if (σ.1 28 1) ≤ x1 then (some ((), (sw_uI (sw_uI σ 0 67 0) 0 63 0))) else (if sw_inb (2 * x1) 24 = true then (if sw_inb (12 + (12 * x1)) 245 = true then (if sw_inb (2 * x1) 24 = true then (if sw_inb ((16 + (12 * x1)) + (σ.1 33 ((2 * x1).toNatClampNeg))) 245 = true then (c272 (sw_uI (sw_uI σ 37 ((12 + (12 * x1)).toNatClampNeg) (σ.1 33 ((2 * x1).toNatClampNeg))) 37 (((16 + (12 * x1)) + (σ.1 33 ((2 * x1).toNatClampNeg))).toNatClampNeg) 1) (x1 + 1)) else none) else none) else none) else none)
theorem SC_X11_stands_272 {E : sw_E} {d : Nat} (hd : 0 ≤ d) {p : Unit × sw_St} {c272 : sw_St → Int32 → Option (Unit × sw_St)} (h272 : ∀ (σ : sw_St) (x1 : Int32), c272 σ x1 = some p → sw_W E sw_gM m_X11_stands d 272 [(0, .ref 0), (1, .int x1)] [] σ (sw_pV p)) {σ : sw_St} {x1 : Int32} (h : S_X11_stands_272 c272 σ x1 = some p) : sw_W E sw_gM m_X11_stands d 272 [(0, .ref 0), (1, .int x1)] [] σ (sw_pV p) := by
  unfold S_X11_stands_272 at h
  refine B_X11_stands_272  (fun hc => ?_) (fun hc => ?_)
  · rw [if_pos hc] at h
    cases h
    exact B_X11_stands_330  ⟨rfl, rfl⟩
  · rw [if_neg hc] at h
    obtain ⟨o1, h⟩ := sw_ifs h
    obtain ⟨o2, h⟩ := sw_ifs h
    obtain ⟨o3, h⟩ := sw_ifs h
    obtain ⟨o4, h⟩ := sw_ifs h
    refine B_X11_stands_282 (sw_inb_sp o1) (sw_inb_sp o2) (sw_inb_sp o3) (sw_inb_sp o4) ?_
    exact h272 _ _ h
noncomputable def L_X11_stands_272 : Nat → sw_St → Int32 → Option (Unit × sw_St)
  | 0, _, _ => none
  | k + 1, σ, x1 => S_X11_stands_272 (fun σ x1 => L_X11_stands_272 k σ x1) σ x1
theorem LC_X11_stands_272 {E : sw_E} {d : Nat} (hd : 0 ≤ d) {p : Unit × sw_St} : ∀ (k : Nat) (σ : sw_St) (x1 : Int32), L_X11_stands_272 k σ x1 = some p → sw_W E sw_gM m_X11_stands d 272 [(0, .ref 0), (1, .int x1)] [] σ (sw_pV p) := by
  intro k
  induction k with
  | zero => intro σ x1 h; cases h
  | succ k ih => intro σ x1 h; exact SC_X11_stands_272 hd ih h
noncomputable def S_X11_stands_240 (c240 : sw_St → Int32 → Option (Unit × sw_St)) (σ : sw_St) (x1 : Int32) : Option (Unit × sw_St) :=
  if (σ.1 28 2) ≤ x1 then (L_X11_stands_272 sw_fuel σ 0) else (if sw_inb x1 10 = true then (if sw_inb (2 + x1) 245 = true then (c240 (sw_uI σ 37 ((2 + x1).toNatClampNeg) (σ.1 32 x1.toNatClampNeg)) (x1 + 1)) else none) else none)
theorem SC_X11_stands_240 {E : sw_E} {d : Nat} (hd : 0 ≤ d) {p : Unit × sw_St} {c240 : sw_St → Int32 → Option (Unit × sw_St)} (h240 : ∀ (σ : sw_St) (x1 : Int32), c240 σ x1 = some p → sw_W E sw_gM m_X11_stands d 240 [(0, .ref 0), (1, .int x1)] [] σ (sw_pV p)) {σ : sw_St} {x1 : Int32} (h : S_X11_stands_240 c240 σ x1 = some p) : sw_W E sw_gM m_X11_stands d 240 [(0, .ref 0), (1, .int x1)] [] σ (sw_pV p) := by
  unfold S_X11_stands_240 at h
  refine B_X11_stands_240  (fun hc => ?_) (fun hc => ?_)
  · rw [if_pos hc] at h
    refine B_X11_stands_270  ?_
    exact LC_X11_stands_272 hd _ _ _ h
  · rw [if_neg hc] at h
    obtain ⟨o1, h⟩ := sw_ifs h
    obtain ⟨o2, h⟩ := sw_ifs h
    refine B_X11_stands_250 (sw_inb_sp o1) (sw_inb_sp o2) ?_
    exact h240 _ _ h
noncomputable def L_X11_stands_240 : Nat → sw_St → Int32 → Option (Unit × sw_St)
  | 0, _, _ => none
  | k + 1, σ, x1 => S_X11_stands_240 (fun σ x1 => L_X11_stands_240 k σ x1) σ x1
theorem LC_X11_stands_240 {E : sw_E} {d : Nat} (hd : 0 ≤ d) {p : Unit × sw_St} : ∀ (k : Nat) (σ : sw_St) (x1 : Int32), L_X11_stands_240 k σ x1 = some p → sw_W E sw_gM m_X11_stands d 240 [(0, .ref 0), (1, .int x1)] [] σ (sw_pV p) := by
  intro k
  induction k with
  | zero => intro σ x1 h; cases h
  | succ k ih => intro σ x1 h; exact SC_X11_stands_240 hd ih h
noncomputable def S_X11_stands_218 (c218 : sw_St → Int32 → Option (Unit × sw_St)) (σ : sw_St) (x1 : Int32) : Option (Unit × sw_St) :=
  if 245 ≤ x1 then (L_X11_stands_240 sw_fuel σ 0) else (if sw_inb x1 245 = true then (c218 (sw_uI σ 37 x1.toNatClampNeg 0) (x1 + 1)) else none)
theorem SC_X11_stands_218 {E : sw_E} {d : Nat} (hd : 0 ≤ d) {p : Unit × sw_St} {c218 : sw_St → Int32 → Option (Unit × sw_St)} (h218 : ∀ (σ : sw_St) (x1 : Int32), c218 σ x1 = some p → sw_W E sw_gM m_X11_stands d 218 [(0, .ref 0), (1, .int x1)] [] σ (sw_pV p)) {σ : sw_St} {x1 : Int32} (h : S_X11_stands_218 c218 σ x1 = some p) : sw_W E sw_gM m_X11_stands d 218 [(0, .ref 0), (1, .int x1)] [] σ (sw_pV p) := by
  unfold S_X11_stands_218 at h
  refine B_X11_stands_218  (fun hc => ?_) (fun hc => ?_)
  · rw [if_pos hc] at h
    refine B_X11_stands_238  ?_
    exact LC_X11_stands_240 hd _ _ _ h
  · rw [if_neg hc] at h
    obtain ⟨o1, h⟩ := sw_ifs h
    refine B_X11_stands_225 (sw_inb_sp o1) ?_
    exact h218 _ _ h
noncomputable def L_X11_stands_218 : Nat → sw_St → Int32 → Option (Unit × sw_St)
  | 0, _, _ => none
  | k + 1, σ, x1 => S_X11_stands_218 (fun σ x1 => L_X11_stands_218 k σ x1) σ x1
theorem LC_X11_stands_218 {E : sw_E} {d : Nat} (hd : 0 ≤ d) {p : Unit × sw_St} : ∀ (k : Nat) (σ : sw_St) (x1 : Int32), L_X11_stands_218 k σ x1 = some p → sw_W E sw_gM m_X11_stands d 218 [(0, .ref 0), (1, .int x1)] [] σ (sw_pV p) := by
  intro k
  induction k with
  | zero => intro σ x1 h; cases h
  | succ k ih => intro σ x1 h; exact SC_X11_stands_218 hd ih h
noncomputable def S_X11_stands_186 (c186 : sw_St → Int32 → Option (Unit × sw_St)) (σ : sw_St) (x1 : Int32) : Option (Unit × sw_St) :=
  if (σ.1 0 46) ≤ x1 then (L_X11_stands_218 sw_fuel σ 0) else (if sw_inb x1 3200 = true then (if sw_inb (1600 + x1) 3200 = true then (c186 (sw_uI σ 36 ((1600 + x1).toNatClampNeg) (σ.1 36 x1.toNatClampNeg)) (x1 + 1)) else none) else none)
theorem SC_X11_stands_186 {E : sw_E} {d : Nat} (hd : 0 ≤ d) {p : Unit × sw_St} {c186 : sw_St → Int32 → Option (Unit × sw_St)} (h186 : ∀ (σ : sw_St) (x1 : Int32), c186 σ x1 = some p → sw_W E sw_gM m_X11_stands d 186 [(0, .ref 0), (1, .int x1)] [] σ (sw_pV p)) {σ : sw_St} {x1 : Int32} (h : S_X11_stands_186 c186 σ x1 = some p) : sw_W E sw_gM m_X11_stands d 186 [(0, .ref 0), (1, .int x1)] [] σ (sw_pV p) := by
  unfold S_X11_stands_186 at h
  refine B_X11_stands_186  (fun hc => ?_) (fun hc => ?_)
  · rw [if_pos hc] at h
    refine B_X11_stands_216  ?_
    exact LC_X11_stands_218 hd _ _ _ h
  · rw [if_neg hc] at h
    obtain ⟨o1, h⟩ := sw_ifs h
    obtain ⟨o2, h⟩ := sw_ifs h
    refine B_X11_stands_194 (sw_inb_sp o1) (sw_inb_sp o2) ?_
    exact h186 _ _ h
noncomputable def L_X11_stands_186 : Nat → sw_St → Int32 → Option (Unit × sw_St)
  | 0, _, _ => none
  | k + 1, σ, x1 => S_X11_stands_186 (fun σ x1 => L_X11_stands_186 k σ x1) σ x1
theorem LC_X11_stands_186 {E : sw_E} {d : Nat} (hd : 0 ≤ d) {p : Unit × sw_St} : ∀ (k : Nat) (σ : sw_St) (x1 : Int32), L_X11_stands_186 k σ x1 = some p → sw_W E sw_gM m_X11_stands d 186 [(0, .ref 0), (1, .int x1)] [] σ (sw_pV p) := by
  intro k
  induction k with
  | zero => intro σ x1 h; cases h
  | succ k ih => intro σ x1 h; exact SC_X11_stands_186 hd ih h
noncomputable def S_X11_stands_157 (c157 : sw_St → Int32 → Option (Unit × sw_St)) (σ : sw_St) (x1 : Int32) : Option (Unit × sw_St) :=
  if 12 ≤ x1 then (L_X11_stands_186 sw_fuel σ 0) else (if sw_inb x1 24 = true then (if sw_inb (12 + x1) 24 = true then (c157 (sw_uI σ 33 ((12 + x1).toNatClampNeg) (σ.1 33 x1.toNatClampNeg)) (x1 + 1)) else none) else none)
theorem SC_X11_stands_157 {E : sw_E} {d : Nat} (hd : 0 ≤ d) {p : Unit × sw_St} {c157 : sw_St → Int32 → Option (Unit × sw_St)} (h157 : ∀ (σ : sw_St) (x1 : Int32), c157 σ x1 = some p → sw_W E sw_gM m_X11_stands d 157 [(0, .ref 0), (1, .int x1)] [] σ (sw_pV p)) {σ : sw_St} {x1 : Int32} (h : S_X11_stands_157 c157 σ x1 = some p) : sw_W E sw_gM m_X11_stands d 157 [(0, .ref 0), (1, .int x1)] [] σ (sw_pV p) := by
  unfold S_X11_stands_157 at h
  refine B_X11_stands_157  (fun hc => ?_) (fun hc => ?_)
  · rw [if_pos hc] at h
    refine B_X11_stands_184  ?_
    exact LC_X11_stands_186 hd _ _ _ h
  · rw [if_neg hc] at h
    obtain ⟨o1, h⟩ := sw_ifs h
    obtain ⟨o2, h⟩ := sw_ifs h
    refine B_X11_stands_163 (sw_inb_sp o1) (sw_inb_sp o2) ?_
    exact h157 _ _ h
noncomputable def L_X11_stands_157 : Nat → sw_St → Int32 → Option (Unit × sw_St)
  | 0, _, _ => none
  | k + 1, σ, x1 => S_X11_stands_157 (fun σ x1 => L_X11_stands_157 k σ x1) σ x1
theorem LC_X11_stands_157 {E : sw_E} {d : Nat} (hd : 0 ≤ d) {p : Unit × sw_St} : ∀ (k : Nat) (σ : sw_St) (x1 : Int32), L_X11_stands_157 k σ x1 = some p → sw_W E sw_gM m_X11_stands d 157 [(0, .ref 0), (1, .int x1)] [] σ (sw_pV p) := by
  intro k
  induction k with
  | zero => intro σ x1 h; cases h
  | succ k ih => intro σ x1 h; exact SC_X11_stands_157 hd ih h
noncomputable def S_X11_stands_128 (c128 : sw_St → Int32 → Option (Unit × sw_St)) (σ : sw_St) (x1 : Int32) : Option (Unit × sw_St) :=
  if 30 ≤ x1 then (L_X11_stands_157 sw_fuel σ 0) else (if sw_inb x1 60 = true then (if sw_inb (30 + x1) 60 = true then (c128 (sw_uI σ 31 ((30 + x1).toNatClampNeg) (σ.1 31 x1.toNatClampNeg)) (x1 + 1)) else none) else none)
theorem SC_X11_stands_128 {E : sw_E} {d : Nat} (hd : 0 ≤ d) {p : Unit × sw_St} {c128 : sw_St → Int32 → Option (Unit × sw_St)} (h128 : ∀ (σ : sw_St) (x1 : Int32), c128 σ x1 = some p → sw_W E sw_gM m_X11_stands d 128 [(0, .ref 0), (1, .int x1)] [] σ (sw_pV p)) {σ : sw_St} {x1 : Int32} (h : S_X11_stands_128 c128 σ x1 = some p) : sw_W E sw_gM m_X11_stands d 128 [(0, .ref 0), (1, .int x1)] [] σ (sw_pV p) := by
  unfold S_X11_stands_128 at h
  refine B_X11_stands_128  (fun hc => ?_) (fun hc => ?_)
  · rw [if_pos hc] at h
    refine B_X11_stands_155  ?_
    exact LC_X11_stands_157 hd _ _ _ h
  · rw [if_neg hc] at h
    obtain ⟨o1, h⟩ := sw_ifs h
    obtain ⟨o2, h⟩ := sw_ifs h
    refine B_X11_stands_134 (sw_inb_sp o1) (sw_inb_sp o2) ?_
    exact h128 _ _ h
noncomputable def L_X11_stands_128 : Nat → sw_St → Int32 → Option (Unit × sw_St)
  | 0, _, _ => none
  | k + 1, σ, x1 => S_X11_stands_128 (fun σ x1 => L_X11_stands_128 k σ x1) σ x1
theorem LC_X11_stands_128 {E : sw_E} {d : Nat} (hd : 0 ≤ d) {p : Unit × sw_St} : ∀ (k : Nat) (σ : sw_St) (x1 : Int32), L_X11_stands_128 k σ x1 = some p → sw_W E sw_gM m_X11_stands d 128 [(0, .ref 0), (1, .int x1)] [] σ (sw_pV p) := by
  intro k
  induction k with
  | zero => intro σ x1 h; cases h
  | succ k ih => intro σ x1 h; exact SC_X11_stands_128 hd ih h
noncomputable def S_X11_stands_99 (c99 : sw_St → Int32 → Option (Unit × sw_St)) (σ : sw_St) (x1 : Int32) : Option (Unit × sw_St) :=
  if 8 ≤ x1 then (L_X11_stands_128 sw_fuel σ 0) else (if sw_inb x1 16 = true then (if sw_inb (8 + x1) 16 = true then (c99 (sw_uI σ 30 ((8 + x1).toNatClampNeg) (σ.1 30 x1.toNatClampNeg)) (x1 + 1)) else none) else none)
theorem SC_X11_stands_99 {E : sw_E} {d : Nat} (hd : 0 ≤ d) {p : Unit × sw_St} {c99 : sw_St → Int32 → Option (Unit × sw_St)} (h99 : ∀ (σ : sw_St) (x1 : Int32), c99 σ x1 = some p → sw_W E sw_gM m_X11_stands d 99 [(0, .ref 0), (1, .int x1)] [] σ (sw_pV p)) {σ : sw_St} {x1 : Int32} (h : S_X11_stands_99 c99 σ x1 = some p) : sw_W E sw_gM m_X11_stands d 99 [(0, .ref 0), (1, .int x1)] [] σ (sw_pV p) := by
  unfold S_X11_stands_99 at h
  refine B_X11_stands_99  (fun hc => ?_) (fun hc => ?_)
  · rw [if_pos hc] at h
    refine B_X11_stands_126  ?_
    exact LC_X11_stands_128 hd _ _ _ h
  · rw [if_neg hc] at h
    obtain ⟨o1, h⟩ := sw_ifs h
    obtain ⟨o2, h⟩ := sw_ifs h
    refine B_X11_stands_105 (sw_inb_sp o1) (sw_inb_sp o2) ?_
    exact h99 _ _ h
noncomputable def L_X11_stands_99 : Nat → sw_St → Int32 → Option (Unit × sw_St)
  | 0, _, _ => none
  | k + 1, σ, x1 => S_X11_stands_99 (fun σ x1 => L_X11_stands_99 k σ x1) σ x1
theorem LC_X11_stands_99 {E : sw_E} {d : Nat} (hd : 0 ≤ d) {p : Unit × sw_St} : ∀ (k : Nat) (σ : sw_St) (x1 : Int32), L_X11_stands_99 k σ x1 = some p → sw_W E sw_gM m_X11_stands d 99 [(0, .ref 0), (1, .int x1)] [] σ (sw_pV p) := by
  intro k
  induction k with
  | zero => intro σ x1 h; cases h
  | succ k ih => intro σ x1 h; exact SC_X11_stands_99 hd ih h
noncomputable def S_X11_stands_70 (c70 : sw_St → Int32 → Option (Unit × sw_St)) (σ : sw_St) (x1 : Int32) : Option (Unit × sw_St) :=
  if 16 ≤ x1 then (L_X11_stands_99 sw_fuel σ 0) else (if sw_inb x1 32 = true then (if sw_inb (16 + x1) 32 = true then (c70 (sw_uL σ 29 ((16 + x1).toNatClampNeg) (σ.2.1 29 x1.toNatClampNeg)) (x1 + 1)) else none) else none)
theorem SC_X11_stands_70 {E : sw_E} {d : Nat} (hd : 0 ≤ d) {p : Unit × sw_St} {c70 : sw_St → Int32 → Option (Unit × sw_St)} (h70 : ∀ (σ : sw_St) (x1 : Int32), c70 σ x1 = some p → sw_W E sw_gM m_X11_stands d 70 [(0, .ref 0), (1, .int x1)] [] σ (sw_pV p)) {σ : sw_St} {x1 : Int32} (h : S_X11_stands_70 c70 σ x1 = some p) : sw_W E sw_gM m_X11_stands d 70 [(0, .ref 0), (1, .int x1)] [] σ (sw_pV p) := by
  unfold S_X11_stands_70 at h
  refine B_X11_stands_70  (fun hc => ?_) (fun hc => ?_)
  · rw [if_pos hc] at h
    refine B_X11_stands_97  ?_
    exact LC_X11_stands_99 hd _ _ _ h
  · rw [if_neg hc] at h
    obtain ⟨o1, h⟩ := sw_ifs h
    obtain ⟨o2, h⟩ := sw_ifs h
    refine B_X11_stands_76 (sw_inb_sp o1) (sw_inb_sp o2) ?_
    exact h70 _ _ h
noncomputable def L_X11_stands_70 : Nat → sw_St → Int32 → Option (Unit × sw_St)
  | 0, _, _ => none
  | k + 1, σ, x1 => S_X11_stands_70 (fun σ x1 => L_X11_stands_70 k σ x1) σ x1
theorem LC_X11_stands_70 {E : sw_E} {d : Nat} (hd : 0 ≤ d) {p : Unit × sw_St} : ∀ (k : Nat) (σ : sw_St) (x1 : Int32), L_X11_stands_70 k σ x1 = some p → sw_W E sw_gM m_X11_stands d 70 [(0, .ref 0), (1, .int x1)] [] σ (sw_pV p) := by
  intro k
  induction k with
  | zero => intro σ x1 h; cases h
  | succ k ih => intro σ x1 h; exact SC_X11_stands_70 hd ih h
noncomputable def S_X11_stands_29 (c29 : sw_St → Int32 → Option (Unit × sw_St)) (σ : sw_St) (x1 : Int32) : Option (Unit × sw_St) :=
  if 3 ≤ x1 then (L_X11_stands_70 sw_fuel σ 0) else (if sw_inb x1 6 = true then (if sw_inb (3 + x1) 6 = true then (if sw_inb x1 6 = true then (if sw_inb (3 + x1) 6 = true then (c29 (sw_uI (sw_uI σ 34 ((3 + x1).toNatClampNeg) (σ.1 34 x1.toNatClampNeg)) 35 ((3 + x1).toNatClampNeg) (σ.1 35 x1.toNatClampNeg)) (x1 + 1)) else none) else none) else none) else none)
theorem SC_X11_stands_29 {E : sw_E} {d : Nat} (hd : 0 ≤ d) {p : Unit × sw_St} {c29 : sw_St → Int32 → Option (Unit × sw_St)} (h29 : ∀ (σ : sw_St) (x1 : Int32), c29 σ x1 = some p → sw_W E sw_gM m_X11_stands d 29 [(0, .ref 0), (1, .int x1)] [] σ (sw_pV p)) {σ : sw_St} {x1 : Int32} (h : S_X11_stands_29 c29 σ x1 = some p) : sw_W E sw_gM m_X11_stands d 29 [(0, .ref 0), (1, .int x1)] [] σ (sw_pV p) := by
  unfold S_X11_stands_29 at h
  refine B_X11_stands_29  (fun hc => ?_) (fun hc => ?_)
  · rw [if_pos hc] at h
    refine B_X11_stands_68  ?_
    exact LC_X11_stands_70 hd _ _ _ h
  · rw [if_neg hc] at h
    obtain ⟨o1, h⟩ := sw_ifs h
    obtain ⟨o2, h⟩ := sw_ifs h
    obtain ⟨o3, h⟩ := sw_ifs h
    obtain ⟨o4, h⟩ := sw_ifs h
    refine B_X11_stands_34 (sw_inb_sp o1) (sw_inb_sp o2) (sw_inb_sp o3) (sw_inb_sp o4) ?_
    exact h29 _ _ h
noncomputable def L_X11_stands_29 : Nat → sw_St → Int32 → Option (Unit × sw_St)
  | 0, _, _ => none
  | k + 1, σ, x1 => S_X11_stands_29 (fun σ x1 => L_X11_stands_29 k σ x1) σ x1
theorem LC_X11_stands_29 {E : sw_E} {d : Nat} (hd : 0 ≤ d) {p : Unit × sw_St} : ∀ (k : Nat) (σ : sw_St) (x1 : Int32), L_X11_stands_29 k σ x1 = some p → sw_W E sw_gM m_X11_stands d 29 [(0, .ref 0), (1, .int x1)] [] σ (sw_pV p) := by
  intro k
  induction k with
  | zero => intro σ x1 h; cases h
  | succ k ih => intro σ x1 h; exact SC_X11_stands_29 hd ih h
noncomputable def S_X11_stands_2 (c2 : sw_St → Int32 → Option (Unit × sw_St)) (σ : sw_St) (x1 : Int32) : Option (Unit × sw_St) :=
  if 4 ≤ x1 then (L_X11_stands_29 sw_fuel σ 0) else (if sw_inb x1 8 = true then (if sw_inb (4 + x1) 8 = true then (c2 (sw_uI σ 28 ((4 + x1).toNatClampNeg) (σ.1 28 x1.toNatClampNeg)) (x1 + 1)) else none) else none)
theorem SC_X11_stands_2 {E : sw_E} {d : Nat} (hd : 0 ≤ d) {p : Unit × sw_St} {c2 : sw_St → Int32 → Option (Unit × sw_St)} (h2 : ∀ (σ : sw_St) (x1 : Int32), c2 σ x1 = some p → sw_W E sw_gM m_X11_stands d 2 [(0, .ref 0), (1, .int x1)] [] σ (sw_pV p)) {σ : sw_St} {x1 : Int32} (h : S_X11_stands_2 c2 σ x1 = some p) : sw_W E sw_gM m_X11_stands d 2 [(0, .ref 0), (1, .int x1)] [] σ (sw_pV p) := by
  unfold S_X11_stands_2 at h
  refine B_X11_stands_2  (fun hc => ?_) (fun hc => ?_)
  · rw [if_pos hc] at h
    refine B_X11_stands_27  ?_
    exact LC_X11_stands_29 hd _ _ _ h
  · rw [if_neg hc] at h
    obtain ⟨o1, h⟩ := sw_ifs h
    obtain ⟨o2, h⟩ := sw_ifs h
    refine B_X11_stands_7 (sw_inb_sp o1) (sw_inb_sp o2) ?_
    exact h2 _ _ h
noncomputable def L_X11_stands_2 : Nat → sw_St → Int32 → Option (Unit × sw_St)
  | 0, _, _ => none
  | k + 1, σ, x1 => S_X11_stands_2 (fun σ x1 => L_X11_stands_2 k σ x1) σ x1
theorem LC_X11_stands_2 {E : sw_E} {d : Nat} (hd : 0 ≤ d) {p : Unit × sw_St} : ∀ (k : Nat) (σ : sw_St) (x1 : Int32), L_X11_stands_2 k σ x1 = some p → sw_W E sw_gM m_X11_stands d 2 [(0, .ref 0), (1, .int x1)] [] σ (sw_pV p) := by
  intro k
  induction k with
  | zero => intro σ x1 h; cases h
  | succ k ih => intro σ x1 h; exact SC_X11_stands_2 hd ih h
noncomputable def F_X11_stands (σ : sw_St) : Option (Unit × sw_St) :=
  L_X11_stands_2 sw_fuel σ 0
theorem FC_X11_stands {E : sw_E} {d : Nat} (hd : 0 ≤ d) {p : Unit × sw_St} {σ : sw_St} (h : F_X11_stands σ  = some p) : sw_KV E sw_gM m_X11_stands d [.ref 0] σ (fun s => s = p.2) := by
  unfold F_X11_stands at h
  refine sw_K.of (by decide +kernel) rfl (Nat.le_of_ble_eq_true rfl) ?_
  show sw_W E sw_gM m_X11_stands d 0 [(0, .ref 0)] [] σ (sw_pV p)
  refine B_X11_stands_0  ?_
  exact LC_X11_stands_2 hd _ _ _ h
/-! StrayWoolModel.fault(I)I -/
noncomputable def S_X11_fault_24 (σ : sw_St) (sx0 : Int32) : Option (Int32 × sw_St) :=
  some (sx0, σ)
theorem SC_X11_fault_24 {E : sw_E} {d : Nat} (hd : 0 ≤ d) {p : Int32 × sw_St} {σ : sw_St} {sx0 : Int32} (h : S_X11_fault_24 σ sx0 = some p) : sw_W E sw_gM m_X11_fault d 24 [] [.int sx0] σ (sw_pI p) := by
  unfold S_X11_fault_24 at h
  cases h
  exact B_X11_fault_24  ⟨_, rfl, rfl, rfl⟩
noncomputable def F_X11_fault (σ : sw_St) (x1 : Int32) : Option (Int32 × sw_St) :=
  if x1 = 0 then (S_X11_fault_24 σ (σ.1 0 7)) else (if x1 = 1 then (S_X11_fault_24 σ (σ.1 0 8)) else (S_X11_fault_24 σ (-1)))
theorem FC_X11_fault {E : sw_E} {d : Nat} (hd : 0 ≤ d) {p : Int32 × sw_St} {σ : sw_St} {x1 : Int32} (h : F_X11_fault σ x1 = some p) : sw_KI E sw_gM m_X11_fault d [.ref 0, .int x1] σ (fun v s => v = p.1 ∧ s = p.2) := by
  unfold F_X11_fault at h
  refine sw_K.of (by decide +kernel) rfl (Nat.le_of_ble_eq_true rfl) ?_
  show sw_W E sw_gM m_X11_fault d 0 [(0, .ref 0), (1, .int x1)] [] σ (sw_pI p)
  refine B_X11_fault_0  (fun hc => ?_) (fun hc => ?_)
  · rw [if_neg hc] at h
    refine B_X11_fault_11  (fun hc => ?_) (fun hc => ?_)
    · rw [if_neg hc] at h
      refine B_X11_fault_23  ?_
      exact SC_X11_fault_24 hd h
    · rw [if_pos hc] at h
      refine B_X11_fault_16  ?_
      exact SC_X11_fault_24 hd h
  · rw [if_pos hc] at h
    refine B_X11_fault_4  ?_
    exact SC_X11_fault_24 hd h
/-! StrayWoolModel.fieldMany()I -/
noncomputable def F_X11_fieldMany (σ : sw_St) : Option (Int32 × sw_St) :=
  some (σ.1 28 4, σ)
theorem FC_X11_fieldMany {E : sw_E} {d : Nat} (hd : 0 ≤ d) {p : Int32 × sw_St} {σ : sw_St} (h : F_X11_fieldMany σ  = some p) : sw_KI E sw_gM m_X11_fieldMany d [.ref 0] σ (fun v s => v = p.1 ∧ s = p.2) := by
  unfold F_X11_fieldMany at h
  refine sw_K.of (by decide +kernel) rfl (Nat.le_of_ble_eq_true rfl) ?_
  show sw_W E sw_gM m_X11_fieldMany d 0 [(0, .ref 0)] [] σ (sw_pI p)
  cases h
  exact B_X11_fieldMany_0  ⟨_, rfl, rfl, rfl⟩
/-! StrayWoolModel.sheepMany()I -/
noncomputable def F_X11_sheepMany (σ : sw_St) : Option (Int32 × sw_St) :=
  some (σ.1 28 5, σ)
theorem FC_X11_sheepMany {E : sw_E} {d : Nat} (hd : 0 ≤ d) {p : Int32 × sw_St} {σ : sw_St} (h : F_X11_sheepMany σ  = some p) : sw_KI E sw_gM m_X11_sheepMany d [.ref 0] σ (fun v s => v = p.1 ∧ s = p.2) := by
  unfold F_X11_sheepMany at h
  refine sw_K.of (by decide +kernel) rfl (Nat.le_of_ble_eq_true rfl) ?_
  show sw_W E sw_gM m_X11_sheepMany d 0 [(0, .ref 0)] [] σ (sw_pI p)
  cases h
  exact B_X11_sheepMany_0  ⟨_, rfl, rfl, rfl⟩
/-! StrayWoolModel.gapMany()I -/
noncomputable def F_X11_gapMany (σ : sw_St) : Option (Int32 × sw_St) :=
  some (σ.1 28 6, σ)
theorem FC_X11_gapMany {E : sw_E} {d : Nat} (hd : 0 ≤ d) {p : Int32 × sw_St} {σ : sw_St} (h : F_X11_gapMany σ  = some p) : sw_KI E sw_gM m_X11_gapMany d [.ref 0] σ (fun v s => v = p.1 ∧ s = p.2) := by
  unfold F_X11_gapMany at h
  refine sw_K.of (by decide +kernel) rfl (Nat.le_of_ble_eq_true rfl) ?_
  show sw_W E sw_gM m_X11_gapMany d 0 [(0, .ref 0)] [] σ (sw_pI p)
  cases h
  exact B_X11_gapMany_0  ⟨_, rfl, rfl, rfl⟩
/-! StrayWoolModel.isField(J)Z -/
noncomputable def F_X11_isField (σ : sw_St) (y1 : Int64) : Option (Int32 × sw_St) :=
  (F_X11_fieldMany σ ).bind fun q1 => (F_X11_isIn q1.2 y1 0 ((q1.1 - 1).toInt64)).bind fun q2 => if q2.1 = 0 ∨ q2.1 = 1 then some (q2.1, q2.2) else none
theorem FC_X11_isField {E : sw_E} {d : Nat} (hd : 1 ≤ d) {p : Int32 × sw_St} {σ : sw_St} {y1 : Int64} (h : F_X11_isField σ y1 = some p) : sw_KI E sw_gM m_X11_isField d [.ref 0, .long y1] σ (fun v s => v = p.1 ∧ s = p.2) := by
  unfold F_X11_isField at h
  refine sw_K.of (by decide +kernel) rfl (Nat.le_of_ble_eq_true rfl) ?_
  show sw_W E sw_gM m_X11_isField d 0 [(0, .ref 0), (1, .long y1)] [] σ (sw_pI p)
  obtain ⟨q1, hq, h⟩ := sw_bnd h
  refine B_X11_isField_0  (FC_X11_fieldMany (Nat.le_refl _) hq) (Nat.lt_of_lt_of_le (by decide) hd) (fun v s hvs => ?_)
  obtain ⟨hv1, hv2⟩ := hvs; subst hv1; subst hv2
  obtain ⟨q2, hq, h⟩ := sw_bnd h
  refine B_X11_isField_6  (FC_X11_isIn (Nat.le_refl _) hq) (Nat.lt_of_lt_of_le (by decide) hd) (fun v s hvs => ?_)
  obtain ⟨hv1, hv2⟩ := hvs; subst hv1; subst hv2
  obtain ⟨hz, h⟩ := sw_ifs h
  cases h
  exact B_X11_isField_12  hz ⟨_, rfl, rfl, rfl⟩
/-! StrayWoolModel.isSheep(I)Z -/
noncomputable def F_X11_isSheep (σ : sw_St) (x1 : Int32) : Option (Int32 × sw_St) :=
  (F_X11_sheepMany σ ).bind fun q1 => (F_X11_isIn q1.2 x1.toInt64 0 ((q1.1 - 1).toInt64)).bind fun q2 => if q2.1 = 0 ∨ q2.1 = 1 then some (q2.1, q2.2) else none
theorem FC_X11_isSheep {E : sw_E} {d : Nat} (hd : 1 ≤ d) {p : Int32 × sw_St} {σ : sw_St} {x1 : Int32} (h : F_X11_isSheep σ x1 = some p) : sw_KI E sw_gM m_X11_isSheep d [.ref 0, .int x1] σ (fun v s => v = p.1 ∧ s = p.2) := by
  unfold F_X11_isSheep at h
  refine sw_K.of (by decide +kernel) rfl (Nat.le_of_ble_eq_true rfl) ?_
  show sw_W E sw_gM m_X11_isSheep d 0 [(0, .ref 0), (1, .int x1)] [] σ (sw_pI p)
  obtain ⟨q1, hq, h⟩ := sw_bnd h
  refine B_X11_isSheep_0  (FC_X11_sheepMany (Nat.le_refl _) hq) (Nat.lt_of_lt_of_le (by decide) hd) (fun v s hvs => ?_)
  obtain ⟨hv1, hv2⟩ := hvs; subst hv1; subst hv2
  obtain ⟨q2, hq, h⟩ := sw_bnd h
  refine B_X11_isSheep_7  (FC_X11_isIn (Nat.le_refl _) hq) (Nat.lt_of_lt_of_le (by decide) hd) (fun v s hvs => ?_)
  obtain ⟨hv1, hv2⟩ := hvs; subst hv1; subst hv2
  obtain ⟨hz, h⟩ := sw_ifs h
  cases h
  exact B_X11_isSheep_13  hz ⟨_, rfl, rfl, rfl⟩
/-! StrayWoolModel.isGap(J)Z -/
noncomputable def F_X11_isGap (σ : sw_St) (y1 : Int64) : Option (Int32 × sw_St) :=
  (F_X11_gapMany σ ).bind fun q1 => (F_X11_isIn q1.2 y1 0 ((q1.1 - 1).toInt64)).bind fun q2 => if q2.1 = 0 ∨ q2.1 = 1 then some (q2.1, q2.2) else none
theorem FC_X11_isGap {E : sw_E} {d : Nat} (hd : 1 ≤ d) {p : Int32 × sw_St} {σ : sw_St} {y1 : Int64} (h : F_X11_isGap σ y1 = some p) : sw_KI E sw_gM m_X11_isGap d [.ref 0, .long y1] σ (fun v s => v = p.1 ∧ s = p.2) := by
  unfold F_X11_isGap at h
  refine sw_K.of (by decide +kernel) rfl (Nat.le_of_ble_eq_true rfl) ?_
  show sw_W E sw_gM m_X11_isGap d 0 [(0, .ref 0), (1, .long y1)] [] σ (sw_pI p)
  obtain ⟨q1, hq, h⟩ := sw_bnd h
  refine B_X11_isGap_0  (FC_X11_gapMany (Nat.le_refl _) hq) (Nat.lt_of_lt_of_le (by decide) hd) (fun v s hvs => ?_)
  obtain ⟨hv1, hv2⟩ := hvs; subst hv1; subst hv2
  obtain ⟨q2, hq, h⟩ := sw_bnd h
  refine B_X11_isGap_6  (FC_X11_isIn (Nat.le_refl _) hq) (Nat.lt_of_lt_of_le (by decide) hd) (fun v s hvs => ?_)
  obtain ⟨hv1, hv2⟩ := hvs; subst hv1; subst hv2
  obtain ⟨hz, h⟩ := sw_ifs h
  cases h
  exact B_X11_isGap_12  hz ⟨_, rfl, rfl, rfl⟩
/-! StrayWoolModel.isOpen(I)Z -/
noncomputable def S_X11_isOpen_17 (σ : sw_St) (sx0 : Int32) : Option (Int32 × sw_St) :=
  if sx0 = 0 ∨ sx0 = 1 then some (sx0, σ) else none
theorem SC_X11_isOpen_17 {E : sw_E} {d : Nat} (hd : 0 ≤ d) {p : Int32 × sw_St} {σ : sw_St} {sx0 : Int32} (h : S_X11_isOpen_17 σ sx0 = some p) : sw_W E sw_gM m_X11_isOpen d 17 [] [.int sx0] σ (sw_pI p) := by
  unfold S_X11_isOpen_17 at h
  obtain ⟨hz, h⟩ := sw_ifs h
  cases h
  exact B_X11_isOpen_17  hz ⟨_, rfl, rfl, rfl⟩
noncomputable def F_X11_isOpen (σ : sw_St) (x1 : Int32) : Option (Int32 × sw_St) :=
  if sw_inb (2 + x1) 245 = true then (if (σ.1 37 ((2 + x1).toNatClampNeg)) = 1 then (S_X11_isOpen_17 σ 1) else (S_X11_isOpen_17 σ 0)) else none
theorem FC_X11_isOpen {E : sw_E} {d : Nat} (hd : 0 ≤ d) {p : Int32 × sw_St} {σ : sw_St} {x1 : Int32} (h : F_X11_isOpen σ x1 = some p) : sw_KI E sw_gM m_X11_isOpen d [.ref 0, .int x1] σ (fun v s => v = p.1 ∧ s = p.2) := by
  unfold F_X11_isOpen at h
  refine sw_K.of (by decide +kernel) rfl (Nat.le_of_ble_eq_true rfl) ?_
  show sw_W E sw_gM m_X11_isOpen d 0 [(0, .ref 0), (1, .int x1)] [] σ (sw_pI p)
  obtain ⟨o1, h⟩ := sw_ifs h
  refine B_X11_isOpen_0 (sw_inb_sp o1) (fun hc => ?_) (fun hc => ?_)
  · rw [if_neg hc] at h
    refine B_X11_isOpen_16  ?_
    exact SC_X11_isOpen_17 hd h
  · rw [if_pos hc] at h
    refine B_X11_isOpen_12  ?_
    exact SC_X11_isOpen_17 hd h

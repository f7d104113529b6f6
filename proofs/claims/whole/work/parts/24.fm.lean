/-! StrayWoolModel.oneGoes(II)V -/
noncomputable def S_X11_oneGoes_2 (c2 : sw_St → Int32 → Int32 → Int32 → Option (Unit × sw_St)) (σ : sw_St) (x1 : Int32) (x2 : Int32) (x3 : Int32) : Option (Unit × sw_St) :=
  if x2 ≤ x3 then (some ((), σ)) else ((F_X11_sheepGoes σ x1).bind fun q1 => c2 (sw_uI q1.2 37 0 ((q1.2.1 37 0) + 1)) x1 x2 (x3 + 1))
theorem SC_X11_oneGoes_2 {E : sw_E} {d : Nat} (hd : 6 ≤ d) {p : Unit × sw_St} {c2 : sw_St → Int32 → Int32 → Int32 → Option (Unit × sw_St)} (h2 : ∀ (σ : sw_St) (x1 : Int32) (x2 : Int32) (x3 : Int32), c2 σ x1 x2 x3 = some p → sw_W E sw_gM m_X11_oneGoes d 2 [(0, .ref 0), (1, .int x1), (2, .int x2), (3, .int x3)] [] σ (sw_pV p)) {σ : sw_St} {x1 : Int32} {x2 : Int32} {x3 : Int32} (h : S_X11_oneGoes_2 c2 σ x1 x2 x3 = some p) : sw_W E sw_gM m_X11_oneGoes d 2 [(0, .ref 0), (1, .int x1), (2, .int x2), (3, .int x3)] [] σ (sw_pV p) := by
  unfold S_X11_oneGoes_2 at h
  refine B_X11_oneGoes_2  (fun hc => ?_) (fun hc => ?_)
  · rw [if_pos hc] at h
    cases h
    exact B_X11_oneGoes_28  ⟨rfl, rfl⟩
  · rw [if_neg hc] at h
    obtain ⟨q1, hq, h⟩ := sw_bnd h
    refine B_X11_oneGoes_7  (FC_X11_sheepGoes (Nat.le_refl _) hq) (Nat.lt_of_lt_of_le (by decide) hd) (fun s hvs => ?_)
    subst hvs
    refine B_X11_oneGoes_12  ?_
    exact h2 _ _ _ _ h
noncomputable def L_X11_oneGoes_2 : Nat → sw_St → Int32 → Int32 → Int32 → Option (Unit × sw_St)
  | 0, _, _, _, _ => none
  | k + 1, σ, x1, x2, x3 => S_X11_oneGoes_2 (fun σ x1 x2 x3 => L_X11_oneGoes_2 k σ x1 x2 x3) σ x1 x2 x3
theorem LC_X11_oneGoes_2 {E : sw_E} {d : Nat} (hd : 6 ≤ d) {p : Unit × sw_St} : ∀ (k : Nat) (σ : sw_St) (x1 : Int32) (x2 : Int32) (x3 : Int32), L_X11_oneGoes_2 k σ x1 x2 x3 = some p → sw_W E sw_gM m_X11_oneGoes d 2 [(0, .ref 0), (1, .int x1), (2, .int x2), (3, .int x3)] [] σ (sw_pV p) := by
  intro k
  induction k with
  | zero => intro σ x1 x2 x3 h; cases h
  | succ k ih => intro σ x1 x2 x3 h; exact SC_X11_oneGoes_2 hd ih h
noncomputable def F_X11_oneGoes (σ : sw_St) (x1 : Int32) (x2 : Int32) : Option (Unit × sw_St) :=
  L_X11_oneGoes_2 sw_fuel σ x1 x2 0
theorem FC_X11_oneGoes {E : sw_E} {d : Nat} (hd : 6 ≤ d) {p : Unit × sw_St} {σ : sw_St} {x1 : Int32} {x2 : Int32} (h : F_X11_oneGoes σ x1 x2 = some p) : sw_KV E sw_gM m_X11_oneGoes d [.ref 0, .int x1, .int x2] σ (fun s => s = p.2) := by
  unfold F_X11_oneGoes at h
  refine sw_K.of (by decide +kernel) rfl (Nat.le_of_ble_eq_true rfl) ?_
  show sw_W E sw_gM m_X11_oneGoes d 0 [(0, .ref 0), (1, .int x1), (2, .int x2)] [] σ (sw_pV p)
  refine B_X11_oneGoes_0  ?_
  exact LC_X11_oneGoes_2 hd _ _ _ _ _ h
/-! StrayWoolModel.strays(I)I -/
noncomputable def S_X11_strays_17 (σ : sw_St) (sx0 : Int32) : Option (Int32 × sw_St) :=
  some (sx0, σ)
theorem SC_X11_strays_17 {E : sw_E} {d : Nat} (hd : 5 ≤ d) {p : Int32 × sw_St} {σ : sw_St} {sx0 : Int32} (h : S_X11_strays_17 σ sx0 = some p) : sw_W E sw_gM m_X11_strays d 17 [] [.int sx0] σ (sw_pI p) := by
  unfold S_X11_strays_17 at h
  cases h
  exact B_X11_strays_17  ⟨_, rfl, rfl, rfl⟩
noncomputable def F_X11_strays (σ : sw_St) (x1 : Int32) : Option (Int32 × sw_St) :=
  (F_X11_isSheep σ x1).bind fun q1 => if q1.1 = 0 then (S_X11_strays_17 q1.2 (-1)) else ((F_X11_gapFor q1.2 x1).bind fun q2 => S_X11_strays_17 q2.2 q2.1)
theorem FC_X11_strays {E : sw_E} {d : Nat} (hd : 5 ≤ d) {p : Int32 × sw_St} {σ : sw_St} {x1 : Int32} (h : F_X11_strays σ x1 = some p) : sw_KI E sw_gM m_X11_strays d [.ref 0, .int x1] σ (fun v s => v = p.1 ∧ s = p.2) := by
  unfold F_X11_strays at h
  refine sw_K.of (by decide +kernel) rfl (Nat.le_of_ble_eq_true rfl) ?_
  show sw_W E sw_gM m_X11_strays d 0 [(0, .ref 0), (1, .int x1)] [] σ (sw_pI p)
  obtain ⟨q1, hq, h⟩ := sw_bnd h
  refine B_X11_strays_0  (FC_X11_isSheep (Nat.le_refl _) hq) (Nat.lt_of_lt_of_le (by decide) hd) (fun v s hvs => ?_)
  obtain ⟨hv1, hv2⟩ := hvs; subst hv1; subst hv2
  refine B_X11_strays_5  (fun hc => ?_) (fun hc => ?_)
  · rw [if_pos hc] at h
    refine B_X11_strays_16  ?_
    exact SC_X11_strays_17 hd h
  · rw [if_neg hc] at h
    obtain ⟨q2, hq, h⟩ := sw_bnd h
    refine B_X11_strays_8  (FC_X11_gapFor (Nat.le_refl _) hq) (Nat.lt_of_lt_of_le (by decide) hd) (fun v s hvs => ?_)
    obtain ⟨hv1, hv2⟩ := hvs; subst hv1; subst hv2
    refine B_X11_strays_13  ?_
    exact SC_X11_strays_17 hd h
/-! StrayWoolModel.brings(I)I -/
noncomputable def S_X11_brings_17 (σ : sw_St) (sx0 : Int32) : Option (Int32 × sw_St) :=
  some (sx0, σ)
theorem SC_X11_brings_17 {E : sw_E} {d : Nat} (hd : 4 ≤ d) {p : Int32 × sw_St} {σ : sw_St} {sx0 : Int32} (h : S_X11_brings_17 σ sx0 = some p) : sw_W E sw_gM m_X11_brings d 17 [] [.int sx0] σ (sw_pI p) := by
  unfold S_X11_brings_17 at h
  cases h
  exact B_X11_brings_17  ⟨_, rfl, rfl, rfl⟩
noncomputable def F_X11_brings (σ : sw_St) (x1 : Int32) : Option (Int32 × sw_St) :=
  (F_X11_isSheep σ x1).bind fun q1 => if q1.1 = 0 then (S_X11_brings_17 q1.2 (-1)) else ((F_X11_worthOf q1.2 x1).bind fun q2 => S_X11_brings_17 q2.2 q2.1)
theorem FC_X11_brings {E : sw_E} {d : Nat} (hd : 4 ≤ d) {p : Int32 × sw_St} {σ : sw_St} {x1 : Int32} (h : F_X11_brings σ x1 = some p) : sw_KI E sw_gM m_X11_brings d [.ref 0, .int x1] σ (fun v s => v = p.1 ∧ s = p.2) := by
  unfold F_X11_brings at h
  refine sw_K.of (by decide +kernel) rfl (Nat.le_of_ble_eq_true rfl) ?_
  show sw_W E sw_gM m_X11_brings d 0 [(0, .ref 0), (1, .int x1)] [] σ (sw_pI p)
  obtain ⟨q1, hq, h⟩ := sw_bnd h
  refine B_X11_brings_0  (FC_X11_isSheep (Nat.le_refl _) hq) (Nat.lt_of_lt_of_le (by decide) hd) (fun v s hvs => ?_)
  obtain ⟨hv1, hv2⟩ := hvs; subst hv1; subst hv2
  refine B_X11_brings_5  (fun hc => ?_) (fun hc => ?_)
  · rw [if_pos hc] at h
    refine B_X11_brings_16  ?_
    exact SC_X11_brings_17 hd h
  · rw [if_neg hc] at h
    obtain ⟨q2, hq, h⟩ := sw_bnd h
    refine B_X11_brings_8  (FC_X11_worthOf (Nat.le_refl _) hq) (Nat.lt_of_lt_of_le (by decide) hd) (fun v s hvs => ?_)
    obtain ⟨hv1, hv2⟩ := hvs; subst hv1; subst hv2
    refine B_X11_brings_13  ?_
    exact SC_X11_brings_17 hd h
/-! StrayWoolModel.later(III)I -/
noncomputable def S_X11_later_31 (σ : sw_St) : Option (Int32 × sw_St) :=
  some ((-1), σ)
theorem SC_X11_later_31 {E : sw_E} {d : Nat} (hd : 7 ≤ d) {p : Int32 × sw_St} {σ : sw_St} (h : S_X11_later_31 σ  = some p) : sw_W E sw_gM m_X11_later d 31 [] [] σ (sw_pI p) := by
  unfold S_X11_later_31 at h
  cases h
  exact B_X11_later_31  ⟨_, rfl, rfl, rfl⟩
noncomputable def F_X11_later (σ : sw_St) (x1 : Int32) (x2 : Int32) (x3 : Int32) : Option (Int32 × sw_St) :=
  (F_X11_isSheep σ x1).bind fun q1 => if q1.1 = 0 then (S_X11_later_31 q1.2 ) else ((F_X11_isAhead q1.2 x2 0 60).bind fun q2 => if q2.1 = 0 then (S_X11_later_31 q2.2 ) else ((F_X11_isIn q2.2 x3.toInt64 0 2).bind fun q3 => if q3.1 = 0 then (S_X11_later_31 q3.2 ) else ((F_X11_putsAside q3.2 ).bind fun q4 => (F_X11_oneGoes q4.2 x1 x2).bind fun q5 => if sw_inb ((12 + (12 * x1)) + x3) 245 = true then ((F_X11_takesBack q5.2 ).bind fun q7 => some ((q5.2.1 37 (((12 + (12 * x1)) + x3).toNatClampNeg)), q7.2)) else none)))
theorem FC_X11_later {E : sw_E} {d : Nat} (hd : 7 ≤ d) {p : Int32 × sw_St} {σ : sw_St} {x1 : Int32} {x2 : Int32} {x3 : Int32} (h : F_X11_later σ x1 x2 x3 = some p) : sw_KI E sw_gM m_X11_later d [.ref 0, .int x1, .int x2, .int x3] σ (fun v s => v = p.1 ∧ s = p.2) := by
  unfold F_X11_later at h
  refine sw_K.of (by decide +kernel) rfl (Nat.le_of_ble_eq_true rfl) ?_
  show sw_W E sw_gM m_X11_later d 0 [(0, .ref 0), (1, .int x1), (2, .int x2), (3, .int x3)] [] σ (sw_pI p)
  obtain ⟨q1, hq, h⟩ := sw_bnd h
  refine B_X11_later_0  (FC_X11_isSheep (Nat.le_refl _) hq) (Nat.lt_of_lt_of_le (by decide) hd) (fun v s hvs => ?_)
  obtain ⟨hv1, hv2⟩ := hvs; subst hv1; subst hv2
  refine B_X11_later_5  (fun hc => ?_) (fun hc => ?_)
  · rw [if_pos hc] at h
    exact SC_X11_later_31 hd h
  · rw [if_neg hc] at h
    obtain ⟨q2, hq, h⟩ := sw_bnd h
    refine B_X11_later_8  (FC_X11_isAhead (Nat.le_refl _) hq) (Nat.lt_of_lt_of_le (by decide) hd) (fun v s hvs => ?_)
    obtain ⟨hv1, hv2⟩ := hvs; subst hv1; subst hv2
    refine B_X11_later_16  (fun hc => ?_) (fun hc => ?_)
    · rw [if_pos hc] at h
      exact SC_X11_later_31 hd h
    · rw [if_neg hc] at h
      obtain ⟨q3, hq, h⟩ := sw_bnd h
      refine B_X11_later_19  (FC_X11_isIn (Nat.le_refl _) hq) (Nat.lt_of_lt_of_le (by decide) hd) (fun v s hvs => ?_)
      obtain ⟨hv1, hv2⟩ := hvs; subst hv1; subst hv2
      refine B_X11_later_28  (fun hc => ?_) (fun hc => ?_)
      · rw [if_neg hc] at h
        obtain ⟨q4, hq, h⟩ := sw_bnd h
        refine B_X11_later_33  (FC_X11_putsAside (Nat.le_refl _) hq) (Nat.lt_of_lt_of_le (by decide) hd) (fun s hvs => ?_)
        subst hvs
        obtain ⟨q5, hq, h⟩ := sw_bnd h
        refine B_X11_later_37  (FC_X11_oneGoes (Nat.le_refl _) hq) (Nat.lt_of_lt_of_le (by decide) hd) (fun s hvs => ?_)
        subst hvs
        obtain ⟨o6, h⟩ := sw_ifs h
        obtain ⟨q7, hq, h⟩ := sw_bnd h
        refine B_X11_later_43 (sw_inb_sp o6) (FC_X11_takesBack (Nat.le_refl _) hq) (Nat.lt_of_lt_of_le (by decide) hd) (fun s hvs => ?_)
        subst hvs
        cases h
        exact B_X11_later_63  ⟨_, rfl, rfl, rfl⟩
      · rw [if_pos hc] at h
        exact SC_X11_later_31 hd h
/-! StrayWoolModel.home(I)I -/
noncomputable def S_X11_home_68 (σ : sw_St) (x2 : Int32) : Option (Int32 × sw_St) :=
  (F_X11_takesBack σ ).bind fun q1 => some (x2, q1.2)
theorem SC_X11_home_68 {E : sw_E} {d : Nat} (hd : 7 ≤ d) {p : Int32 × sw_St} {σ : sw_St} {x2 : Int32} (h : S_X11_home_68 σ x2 = some p) : sw_W E sw_gM m_X11_home d 68 [(0, .ref 0), (2, .int x2)] [] σ (sw_pI p) := by
  unfold S_X11_home_68 at h
  obtain ⟨q1, hq, h⟩ := sw_bnd h
  refine B_X11_home_68  (FC_X11_takesBack (Nat.le_refl _) hq) (Nat.lt_of_lt_of_le (by decide) hd) (fun s hvs => ?_)
  subst hvs
  cases h
  exact B_X11_home_72  ⟨_, rfl, rfl, rfl⟩
noncomputable def S_X11_home_62 (c18 : sw_St → Int32 → Int32 → Int32 → Option (Int32 × sw_St)) (σ : sw_St) (x1 : Int32) (x2 : Int32) (x3 : Int32) : Option (Int32 × sw_St) :=
  c18 σ x1 x2 (x3 + 1)
theorem SC_X11_home_62 {E : sw_E} {d : Nat} (hd : 7 ≤ d) {p : Int32 × sw_St} {c18 : sw_St → Int32 → Int32 → Int32 → Option (Int32 × sw_St)} (h18 : ∀ (σ : sw_St) (x1 : Int32) (x2 : Int32) (x3 : Int32), c18 σ x1 x2 x3 = some p → sw_W E sw_gM m_X11_home d 18 [(0, .ref 0), (1, .int x1), (2, .int x2), (3, .int x3)] [] σ (sw_pI p)) {σ : sw_St} {x1 : Int32} {x2 : Int32} {x3 : Int32} (h : S_X11_home_62 c18 σ x1 x2 x3 = some p) : sw_W E sw_gM m_X11_home d 62 [(0, .ref 0), (1, .int x1), (2, .int x2), (3, .int x3)] [] σ (sw_pI p) := by
  unfold S_X11_home_62 at h
  refine B_X11_home_62  ?_
  exact h18 _ _ _ _ h
noncomputable def S_X11_home_18 (c18 : sw_St → Int32 → Int32 → Int32 → Option (Int32 × sw_St)) (σ : sw_St) (x1 : Int32) (x2 : Int32) (x3 : Int32) : Option (Int32 × sw_St) :=
  if 60 < x3 then (S_X11_home_68 σ x2) else (if 999 ≤ (σ.1 37 0) then (S_X11_home_68 σ x2) else (if x2 = (-1) then ((F_X11_oneGoes σ x1 1).bind fun q1 => (F_X11_fieldOf q1.2 x1).bind fun q2 => (F_X11_homeOf q2.2 x1).bind fun q3 => if q2.1 = q3.1 then (S_X11_home_62 c18 q3.2 x1 x3 x3) else (S_X11_home_62 c18 q3.2 x1 x2 x3)) else (S_X11_home_68 σ x2)))
theorem SC_X11_home_18 {E : sw_E} {d : Nat} (hd : 7 ≤ d) {p : Int32 × sw_St} {c18 : sw_St → Int32 → Int32 → Int32 → Option (Int32 × sw_St)} (h18 : ∀ (σ : sw_St) (x1 : Int32) (x2 : Int32) (x3 : Int32), c18 σ x1 x2 x3 = some p → sw_W E sw_gM m_X11_home d 18 [(0, .ref 0), (1, .int x1), (2, .int x2), (3, .int x3)] [] σ (sw_pI p)) {σ : sw_St} {x1 : Int32} {x2 : Int32} {x3 : Int32} (h : S_X11_home_18 c18 σ x1 x2 x3 = some p) : sw_W E sw_gM m_X11_home d 18 [(0, .ref 0), (1, .int x1), (2, .int x2), (3, .int x3)] [] σ (sw_pI p) := by
  unfold S_X11_home_18 at h
  refine B_X11_home_18  (fun hc => ?_) (fun hc => ?_)
  · rw [if_pos hc] at h
    exact SC_X11_home_68 hd h
  · rw [if_neg hc] at h
    refine B_X11_home_24  (fun hc => ?_) (fun hc => ?_)
    · rw [if_pos hc] at h
      exact SC_X11_home_68 hd h
    · rw [if_neg hc] at h
      refine B_X11_home_36  (fun hc => ?_) (fun hc => ?_)
      · rw [if_neg hc] at h
        exact SC_X11_home_68 hd h
      · rw [if_pos hc] at h
        obtain ⟨q1, hq, h⟩ := sw_bnd h
        refine B_X11_home_41  (FC_X11_oneGoes (Nat.le_refl _) hq) (Nat.lt_of_lt_of_le (by decide) hd) (fun s hvs => ?_)
        subst hvs
        obtain ⟨q2, hq, h⟩ := sw_bnd h
        refine B_X11_home_47  (FC_X11_fieldOf (Nat.le_refl _) hq) (Nat.lt_of_lt_of_le (by decide) hd) (fun v s hvs => ?_)
        obtain ⟨hv1, hv2⟩ := hvs; subst hv1; subst hv2
        obtain ⟨q3, hq, h⟩ := sw_bnd h
        refine B_X11_home_52  (FC_X11_homeOf (Nat.le_refl _) hq) (Nat.lt_of_lt_of_le (by decide) hd) (fun v s hvs => ?_)
        obtain ⟨hv1, hv2⟩ := hvs; subst hv1; subst hv2
        refine B_X11_home_57  (fun hc => ?_) (fun hc => ?_)
        · rw [if_neg hc] at h
          exact SC_X11_home_62 hd h18 h
        · rw [if_pos hc] at h
          refine B_X11_home_60  ?_
          exact SC_X11_home_62 hd h18 h
noncomputable def L_X11_home_18 : Nat → sw_St → Int32 → Int32 → Int32 → Option (Int32 × sw_St)
  | 0, _, _, _, _ => none
  | k + 1, σ, x1, x2, x3 => S_X11_home_18 (fun σ x1 x2 x3 => L_X11_home_18 k σ x1 x2 x3) σ x1 x2 x3
theorem LC_X11_home_18 {E : sw_E} {d : Nat} (hd : 7 ≤ d) {p : Int32 × sw_St} : ∀ (k : Nat) (σ : sw_St) (x1 : Int32) (x2 : Int32) (x3 : Int32), L_X11_home_18 k σ x1 x2 x3 = some p → sw_W E sw_gM m_X11_home d 18 [(0, .ref 0), (1, .int x1), (2, .int x2), (3, .int x3)] [] σ (sw_pI p) := by
  intro k
  induction k with
  | zero => intro σ x1 x2 x3 h; cases h
  | succ k ih => intro σ x1 x2 x3 h; exact SC_X11_home_18 hd ih h
noncomputable def F_X11_home (σ : sw_St) (x1 : Int32) : Option (Int32 × sw_St) :=
  (F_X11_isSheep σ x1).bind fun q1 => if q1.1 = 0 then (some ((-1), q1.2)) else ((F_X11_putsAside q1.2 ).bind fun q2 => L_X11_home_18 sw_fuel q2.2 x1 (-1) 1)
theorem FC_X11_home {E : sw_E} {d : Nat} (hd : 7 ≤ d) {p : Int32 × sw_St} {σ : sw_St} {x1 : Int32} (h : F_X11_home σ x1 = some p) : sw_KI E sw_gM m_X11_home d [.ref 0, .int x1] σ (fun v s => v = p.1 ∧ s = p.2) := by
  unfold F_X11_home at h
  refine sw_K.of (by decide +kernel) rfl (Nat.le_of_ble_eq_true rfl) ?_
  show sw_W E sw_gM m_X11_home d 0 [(0, .ref 0), (1, .int x1)] [] σ (sw_pI p)
  obtain ⟨q1, hq, h⟩ := sw_bnd h
  refine B_X11_home_0  (FC_X11_isSheep (Nat.le_refl _) hq) (Nat.lt_of_lt_of_le (by decide) hd) (fun v s hvs => ?_)
  obtain ⟨hv1, hv2⟩ := hvs; subst hv1; subst hv2
  refine B_X11_home_5  (fun hc => ?_) (fun hc => ?_)
  · rw [if_neg hc] at h
    obtain ⟨q2, hq, h⟩ := sw_bnd h
    refine B_X11_home_10  (FC_X11_putsAside (Nat.le_refl _) hq) (Nat.lt_of_lt_of_le (by decide) hd) (fun s hvs => ?_)
    subst hvs
    refine B_X11_home_16  ?_
    exact LC_X11_home_18 hd _ _ _ _ _ h
  · rw [if_pos hc] at h
    cases h
    exact B_X11_home_8  ⟨_, rfl, rfl, rfl⟩
/-! StrayWoolModel.gaps(III)I -/
noncomputable def S_X11_gaps_28 (σ : sw_St) : Option (Int32 × sw_St) :=
  some ((-1), σ)
theorem SC_X11_gaps_28 {E : sw_E} {d : Nat} (hd : 7 ≤ d) {p : Int32 × sw_St} {σ : sw_St} (h : S_X11_gaps_28 σ  = some p) : sw_W E sw_gM m_X11_gaps d 28 [] [] σ (sw_pI p) := by
  unfold S_X11_gaps_28 at h
  cases h
  exact B_X11_gaps_28  ⟨_, rfl, rfl, rfl⟩
noncomputable def S_X11_gaps_102 (c40 : sw_St → Int32 → Int32 → Int32 → Int32 → Int32 → Option (Int32 × sw_St)) (σ : sw_St) (x1 : Int32) (x2 : Int32) (x3 : Int32) (x4 : Int32) (x5 : Int32) : Option (Int32 × sw_St) :=
  c40 σ x1 x2 x3 x4 (x5 + 1)
theorem SC_X11_gaps_102 {E : sw_E} {d : Nat} (hd : 7 ≤ d) {p : Int32 × sw_St} {c40 : sw_St → Int32 → Int32 → Int32 → Int32 → Int32 → Option (Int32 × sw_St)} (h40 : ∀ (σ : sw_St) (x1 : Int32) (x2 : Int32) (x3 : Int32) (x4 : Int32) (x5 : Int32), c40 σ x1 x2 x3 x4 x5 = some p → sw_W E sw_gM m_X11_gaps d 40 [(0, .ref 0), (1, .int x1), (2, .int x2), (3, .int x3), (4, .int x4), (5, .int x5)] [] σ (sw_pI p)) {σ : sw_St} {x1 : Int32} {x2 : Int32} {x3 : Int32} {x4 : Int32} {x5 : Int32} (h : S_X11_gaps_102 c40 σ x1 x2 x3 x4 x5 = some p) : sw_W E sw_gM m_X11_gaps d 102 [(0, .ref 0), (1, .int x1), (2, .int x2), (3, .int x3), (4, .int x4), (5, .int x5)] [] σ (sw_pI p) := by
  unfold S_X11_gaps_102 at h
  refine B_X11_gaps_102  ?_
  exact h40 _ _ _ _ _ _ h
noncomputable def S_X11_gaps_98 (c40 : sw_St → Int32 → Int32 → Int32 → Int32 → Int32 → Option (Int32 × sw_St)) (σ : sw_St) (x1 : Int32) (x2 : Int32) (x3 : Int32) (x4 : Int32) (x5 : Int32) : Option (Int32 × sw_St) :=
  (F_X11_triesAnew σ ).bind fun q1 => S_X11_gaps_102 c40 q1.2 x1 x2 x3 x4 x5
theorem SC_X11_gaps_98 {E : sw_E} {d : Nat} (hd : 7 ≤ d) {p : Int32 × sw_St} {c40 : sw_St → Int32 → Int32 → Int32 → Int32 → Int32 → Option (Int32 × sw_St)} (h40 : ∀ (σ : sw_St) (x1 : Int32) (x2 : Int32) (x3 : Int32) (x4 : Int32) (x5 : Int32), c40 σ x1 x2 x3 x4 x5 = some p → sw_W E sw_gM m_X11_gaps d 40 [(0, .ref 0), (1, .int x1), (2, .int x2), (3, .int x3), (4, .int x4), (5, .int x5)] [] σ (sw_pI p)) {σ : sw_St} {x1 : Int32} {x2 : Int32} {x3 : Int32} {x4 : Int32} {x5 : Int32} (h : S_X11_gaps_98 c40 σ x1 x2 x3 x4 x5 = some p) : sw_W E sw_gM m_X11_gaps d 98 [(0, .ref 0), (1, .int x1), (2, .int x2), (3, .int x3), (4, .int x4), (5, .int x5)] [] σ (sw_pI p) := by
  unfold S_X11_gaps_98 at h
  obtain ⟨q1, hq, h⟩ := sw_bnd h
  refine B_X11_gaps_98  (FC_X11_triesAnew (Nat.le_refl _) hq) (Nat.lt_of_lt_of_le (by decide) hd) (fun s hvs => ?_)
  subst hvs
  exact SC_X11_gaps_102 hd h40 h
noncomputable def S_X11_gaps_73 (c40 : sw_St → Int32 → Int32 → Int32 → Int32 → Int32 → Option (Int32 × sw_St)) (σ : sw_St) (x1 : Int32) (x2 : Int32) (x3 : Int32) (x4 : Int32) (x5 : Int32) : Option (Int32 × sw_St) :=
  (F_X11_changes σ x5).bind fun q1 => (F_X11_oneGoes q1.2 x1 x3).bind fun q2 => (F_X11_fieldOf q2.2 x1).bind fun q3 => if q3.1 = x2 then (S_X11_gaps_98 c40 q3.2 x1 x2 x3 x5 x5) else (S_X11_gaps_98 c40 q3.2 x1 x2 x3 x4 x5)
theorem SC_X11_gaps_73 {E : sw_E} {d : Nat} (hd : 7 ≤ d) {p : Int32 × sw_St} {c40 : sw_St → Int32 → Int32 → Int32 → Int32 → Int32 → Option (Int32 × sw_St)} (h40 : ∀ (σ : sw_St) (x1 : Int32) (x2 : Int32) (x3 : Int32) (x4 : Int32) (x5 : Int32), c40 σ x1 x2 x3 x4 x5 = some p → sw_W E sw_gM m_X11_gaps d 40 [(0, .ref 0), (1, .int x1), (2, .int x2), (3, .int x3), (4, .int x4), (5, .int x5)] [] σ (sw_pI p)) {σ : sw_St} {x1 : Int32} {x2 : Int32} {x3 : Int32} {x4 : Int32} {x5 : Int32} (h : S_X11_gaps_73 c40 σ x1 x2 x3 x4 x5 = some p) : sw_W E sw_gM m_X11_gaps d 73 [(0, .ref 0), (1, .int x1), (2, .int x2), (3, .int x3), (4, .int x4), (5, .int x5)] [] σ (sw_pI p) := by
  unfold S_X11_gaps_73 at h
  obtain ⟨q1, hq, h⟩ := sw_bnd h
  refine B_X11_gaps_73  (FC_X11_changes (Nat.le_refl _) hq) (Nat.lt_of_lt_of_le (by decide) hd) (fun s hvs => ?_)
  subst hvs
  obtain ⟨q2, hq, h⟩ := sw_bnd h
  refine B_X11_gaps_79  (FC_X11_oneGoes (Nat.le_refl _) hq) (Nat.lt_of_lt_of_le (by decide) hd) (fun s hvs => ?_)
  subst hvs
  obtain ⟨q3, hq, h⟩ := sw_bnd h
  refine B_X11_gaps_85  (FC_X11_fieldOf (Nat.le_refl _) hq) (Nat.lt_of_lt_of_le (by decide) hd) (fun v s hvs => ?_)
  obtain ⟨hv1, hv2⟩ := hvs; subst hv1; subst hv2
  refine B_X11_gaps_90  (fun hc => ?_) (fun hc => ?_)
  · rw [if_neg hc] at h
    exact SC_X11_gaps_98 hd h40 h
  · rw [if_pos hc] at h
    refine B_X11_gaps_94  ?_
    exact SC_X11_gaps_98 hd h40 h
noncomputable def S_X11_gaps_40 (c40 : sw_St → Int32 → Int32 → Int32 → Int32 → Int32 → Option (Int32 × sw_St)) (σ : sw_St) (x1 : Int32) (x2 : Int32) (x3 : Int32) (x4 : Int32) (x5 : Int32) : Option (Int32 × sw_St) :=
  (F_X11_gapMany σ ).bind fun q1 => if ((1 : Int32) <<< (q1.1 &&& 31)) ≤ x5 then ((F_X11_takesBack q1.2 ).bind fun q2 => some (x4, q2.2)) else (if x4 = (-1) then (S_X11_gaps_73 c40 q1.2 x1 x2 x3 x4 x5) else ((F_X11_bits q1.2 x5).bind fun q3 => (F_X11_bits q3.2 x4).bind fun q4 => if q3.1 < q4.1 then (S_X11_gaps_73 c40 q4.2 x1 x2 x3 x4 x5) else (S_X11_gaps_102 c40 q4.2 x1 x2 x3 x4 x5)))
theorem SC_X11_gaps_40 {E : sw_E} {d : Nat} (hd : 7 ≤ d) {p : Int32 × sw_St} {c40 : sw_St → Int32 → Int32 → Int32 → Int32 → Int32 → Option (Int32 × sw_St)} (h40 : ∀ (σ : sw_St) (x1 : Int32) (x2 : Int32) (x3 : Int32) (x4 : Int32) (x5 : Int32), c40 σ x1 x2 x3 x4 x5 = some p → sw_W E sw_gM m_X11_gaps d 40 [(0, .ref 0), (1, .int x1), (2, .int x2), (3, .int x3), (4, .int x4), (5, .int x5)] [] σ (sw_pI p)) {σ : sw_St} {x1 : Int32} {x2 : Int32} {x3 : Int32} {x4 : Int32} {x5 : Int32} (h : S_X11_gaps_40 c40 σ x1 x2 x3 x4 x5 = some p) : sw_W E sw_gM m_X11_gaps d 40 [(0, .ref 0), (1, .int x1), (2, .int x2), (3, .int x3), (4, .int x4), (5, .int x5)] [] σ (sw_pI p) := by
  unfold S_X11_gaps_40 at h
  obtain ⟨q1, hq, h⟩ := sw_bnd h
  refine B_X11_gaps_40  (FC_X11_gapMany (Nat.le_refl _) hq) (Nat.lt_of_lt_of_le (by decide) hd) (fun v s hvs => ?_)
  obtain ⟨hv1, hv2⟩ := hvs; subst hv1; subst hv2
  refine B_X11_gaps_47  (fun hc => ?_) (fun hc => ?_)
  · rw [if_pos hc] at h
    obtain ⟨q2, hq, h⟩ := sw_bnd h
    refine B_X11_gaps_108  (FC_X11_takesBack (Nat.le_refl _) hq) (Nat.lt_of_lt_of_le (by decide) hd) (fun s hvs => ?_)
    subst hvs
    cases h
    exact B_X11_gaps_112  ⟨_, rfl, rfl, rfl⟩
  · rw [if_neg hc] at h
    refine B_X11_gaps_51  (fun hc => ?_) (fun hc => ?_)
    · rw [if_pos hc] at h
      exact SC_X11_gaps_73 hd h40 h
    · rw [if_neg hc] at h
      obtain ⟨q3, hq, h⟩ := sw_bnd h
      refine B_X11_gaps_57  (FC_X11_bits (Nat.le_refl _) hq) (Nat.lt_of_lt_of_le (by decide) hd) (fun v s hvs => ?_)
      obtain ⟨hv1, hv2⟩ := hvs; subst hv1; subst hv2
      obtain ⟨q4, hq, h⟩ := sw_bnd h
      refine B_X11_gaps_62  (FC_X11_bits (Nat.le_refl _) hq) (Nat.lt_of_lt_of_le (by decide) hd) (fun v s hvs => ?_)
      obtain ⟨hv1, hv2⟩ := hvs; subst hv1; subst hv2
      refine B_X11_gaps_67  (fun hc => ?_) (fun hc => ?_)
      · rw [if_pos hc] at h
        exact SC_X11_gaps_73 hd h40 h
      · rw [if_neg hc] at h
        refine B_X11_gaps_70  ?_
        exact SC_X11_gaps_102 hd h40 h
noncomputable def L_X11_gaps_40 : Nat → sw_St → Int32 → Int32 → Int32 → Int32 → Int32 → Option (Int32 × sw_St)
  | 0, _, _, _, _, _, _ => none
  | k + 1, σ, x1, x2, x3, x4, x5 => S_X11_gaps_40 (fun σ x1 x2 x3 x4 x5 => L_X11_gaps_40 k σ x1 x2 x3 x4 x5) σ x1 x2 x3 x4 x5
theorem LC_X11_gaps_40 {E : sw_E} {d : Nat} (hd : 7 ≤ d) {p : Int32 × sw_St} : ∀ (k : Nat) (σ : sw_St) (x1 : Int32) (x2 : Int32) (x3 : Int32) (x4 : Int32) (x5 : Int32), L_X11_gaps_40 k σ x1 x2 x3 x4 x5 = some p → sw_W E sw_gM m_X11_gaps d 40 [(0, .ref 0), (1, .int x1), (2, .int x2), (3, .int x3), (4, .int x4), (5, .int x5)] [] σ (sw_pI p) := by
  intro k
  induction k with
  | zero => intro σ x1 x2 x3 x4 x5 h; cases h
  | succ k ih => intro σ x1 x2 x3 x4 x5 h; exact SC_X11_gaps_40 hd ih h
noncomputable def F_X11_gaps (σ : sw_St) (x1 : Int32) (x2 : Int32) (x3 : Int32) : Option (Int32 × sw_St) :=
  (F_X11_isSheep σ x1).bind fun q1 => if q1.1 = 0 then (S_X11_gaps_28 q1.2 ) else ((F_X11_isField q1.2 x2.toInt64).bind fun q2 => if q2.1 = 0 then (S_X11_gaps_28 q2.2 ) else ((F_X11_isAhead q2.2 x3 0 20).bind fun q3 => if q3.1 = 0 then (S_X11_gaps_28 q3.2 ) else ((F_X11_putsAside q3.2 ).bind fun q4 => L_X11_gaps_40 sw_fuel q4.2 x1 x2 x3 (-1) 0)))
theorem FC_X11_gaps {E : sw_E} {d : Nat} (hd : 7 ≤ d) {p : Int32 × sw_St} {σ : sw_St} {x1 : Int32} {x2 : Int32} {x3 : Int32} (h : F_X11_gaps σ x1 x2 x3 = some p) : sw_KI E sw_gM m_X11_gaps d [.ref 0, .int x1, .int x2, .int x3] σ (fun v s => v = p.1 ∧ s = p.2) := by
  unfold F_X11_gaps at h
  refine sw_K.of (by decide +kernel) rfl (Nat.le_of_ble_eq_true rfl) ?_
  show sw_W E sw_gM m_X11_gaps d 0 [(0, .ref 0), (1, .int x1), (2, .int x2), (3, .int x3)] [] σ (sw_pI p)
  obtain ⟨q1, hq, h⟩ := sw_bnd h
  refine B_X11_gaps_0  (FC_X11_isSheep (Nat.le_refl _) hq) (Nat.lt_of_lt_of_le (by decide) hd) (fun v s hvs => ?_)
  obtain ⟨hv1, hv2⟩ := hvs; subst hv1; subst hv2
  refine B_X11_gaps_5  (fun hc => ?_) (fun hc => ?_)
  · rw [if_pos hc] at h
    exact SC_X11_gaps_28 hd h
  · rw [if_neg hc] at h
    obtain ⟨q2, hq, h⟩ := sw_bnd h
    refine B_X11_gaps_8  (FC_X11_isField (Nat.le_refl _) hq) (Nat.lt_of_lt_of_le (by decide) hd) (fun v s hvs => ?_)
    obtain ⟨hv1, hv2⟩ := hvs; subst hv1; subst hv2
    refine B_X11_gaps_14  (fun hc => ?_) (fun hc => ?_)
    · rw [if_pos hc] at h
      exact SC_X11_gaps_28 hd h
    · rw [if_neg hc] at h
      obtain ⟨q3, hq, h⟩ := sw_bnd h
      refine B_X11_gaps_17  (FC_X11_isAhead (Nat.le_refl _) hq) (Nat.lt_of_lt_of_le (by decide) hd) (fun v s hvs => ?_)
      obtain ⟨hv1, hv2⟩ := hvs; subst hv1; subst hv2
      refine B_X11_gaps_25  (fun hc => ?_) (fun hc => ?_)
      · rw [if_neg hc] at h
        obtain ⟨q4, hq, h⟩ := sw_bnd h
        refine B_X11_gaps_30  (FC_X11_putsAside (Nat.le_refl _) hq) (Nat.lt_of_lt_of_le (by decide) hd) (fun s hvs => ?_)
        subst hvs
        refine B_X11_gaps_37  ?_
        exact LC_X11_gaps_40 hd _ _ _ _ _ _ _ h
      · rw [if_pos hc] at h
        exact SC_X11_gaps_28 hd h
/-! StrayWoolModel.rumour(II)I -/
noncomputable def S_X11_rumour_21 (σ : sw_St) : Option (Int32 × sw_St) :=
  some ((-1), σ)
theorem SC_X11_rumour_21 {E : sw_E} {d : Nat} (hd : 8 ≤ d) {p : Int32 × sw_St} {σ : sw_St} (h : S_X11_rumour_21 σ  = some p) : sw_W E sw_gM m_X11_rumour d 21 [] [] σ (sw_pI p) := by
  unfold S_X11_rumour_21 at h
  cases h
  exact B_X11_rumour_21  ⟨_, rfl, rfl, rfl⟩
noncomputable def S_X11_rumour_114 (σ : sw_St) (sx0 : Int32) : Option (Int32 × sw_St) :=
  some (sx0, σ)
theorem SC_X11_rumour_114 {E : sw_E} {d : Nat} (hd : 8 ≤ d) {p : Int32 × sw_St} {σ : sw_St} {sx0 : Int32} (h : S_X11_rumour_114 σ sx0 = some p) : sw_W E sw_gM m_X11_rumour d 114 [] [.int sx0] σ (sw_pI p) := by
  unfold S_X11_rumour_114 at h
  cases h
  exact B_X11_rumour_114  ⟨_, rfl, rfl, rfl⟩
noncomputable def S_X11_rumour_94 (c35 : sw_St → Int32 → Int32 → Int32 → Int32 → Int32 → Option (Int32 × sw_St)) (σ : sw_St) (x1 : Int32) (x2 : Int32) (x3 : Int32) (x4 : Int32) (x5 : Int32) : Option (Int32 × sw_St) :=
  c35 σ x1 x2 x3 x4 (x5 + 1)
theorem SC_X11_rumour_94 {E : sw_E} {d : Nat} (hd : 8 ≤ d) {p : Int32 × sw_St} {c35 : sw_St → Int32 → Int32 → Int32 → Int32 → Int32 → Option (Int32 × sw_St)} (h35 : ∀ (σ : sw_St) (x1 : Int32) (x2 : Int32) (x3 : Int32) (x4 : Int32) (x5 : Int32), c35 σ x1 x2 x3 x4 x5 = some p → sw_W E sw_gM m_X11_rumour d 35 [(0, .ref 0), (1, .int x1), (2, .int x2), (3, .int x3), (4, .int x4), (5, .int x5)] [] σ (sw_pI p)) {σ : sw_St} {x1 : Int32} {x2 : Int32} {x3 : Int32} {x4 : Int32} {x5 : Int32} (h : S_X11_rumour_94 c35 σ x1 x2 x3 x4 x5 = some p) : sw_W E sw_gM m_X11_rumour d 94 [(0, .ref 0), (1, .int x1), (2, .int x2), (3, .int x3), (4, .int x4), (5, .int x5)] [] σ (sw_pI p) := by
  unfold S_X11_rumour_94 at h
  refine B_X11_rumour_94  ?_
  exact h35 _ _ _ _ _ _ h
noncomputable def S_X11_rumour_59 (c35 : sw_St → Int32 → Int32 → Int32 → Int32 → Int32 → Option (Int32 × sw_St)) (σ : sw_St) (x1 : Int32) (x2 : Int32) (x3 : Int32) (x4 : Int32) (x5 : Int32) (sx0 : Int32) : Option (Int32 × sw_St) :=
  (F_X11_changes σ sx0).bind fun q1 => (F_X11_daysGo q1.2 x1).bind fun q2 => (F_X11_woolAll q2.2 ).bind fun q3 => (F_X11_triesAnew q3.2 ).bind fun q4 => if x4 < q3.1 then (S_X11_rumour_94 c35 q4.2 x1 x2 x5 q3.1 x5) else (S_X11_rumour_94 c35 q4.2 x1 x2 x3 x4 x5)
theorem SC_X11_rumour_59 {E : sw_E} {d : Nat} (hd : 8 ≤ d) {p : Int32 × sw_St} {c35 : sw_St → Int32 → Int32 → Int32 → Int32 → Int32 → Option (Int32 × sw_St)} (h35 : ∀ (σ : sw_St) (x1 : Int32) (x2 : Int32) (x3 : Int32) (x4 : Int32) (x5 : Int32), c35 σ x1 x2 x3 x4 x5 = some p → sw_W E sw_gM m_X11_rumour d 35 [(0, .ref 0), (1, .int x1), (2, .int x2), (3, .int x3), (4, .int x4), (5, .int x5)] [] σ (sw_pI p)) {σ : sw_St} {x1 : Int32} {x2 : Int32} {x3 : Int32} {x4 : Int32} {x5 : Int32} {sx0 : Int32} (h : S_X11_rumour_59 c35 σ x1 x2 x3 x4 x5 sx0 = some p) : sw_W E sw_gM m_X11_rumour d 59 [(0, .ref 0), (1, .int x1), (2, .int x2), (3, .int x3), (4, .int x4), (5, .int x5)] [.int sx0, .ref 0] σ (sw_pI p) := by
  unfold S_X11_rumour_59 at h
  obtain ⟨q1, hq, h⟩ := sw_bnd h
  refine B_X11_rumour_59  (FC_X11_changes (Nat.le_refl _) hq) (Nat.lt_of_lt_of_le (by decide) hd) (fun s hvs => ?_)
  subst hvs
  obtain ⟨q2, hq, h⟩ := sw_bnd h
  refine B_X11_rumour_62  (FC_X11_daysGo (Nat.le_refl _) hq) (Nat.lt_of_lt_of_le (by decide) hd) (fun s hvs => ?_)
  subst hvs
  obtain ⟨q3, hq, h⟩ := sw_bnd h
  refine B_X11_rumour_67  (FC_X11_woolAll (Nat.le_refl _) hq) (Nat.lt_of_lt_of_le (by decide) hd) (fun v s hvs => ?_)
  obtain ⟨hv1, hv2⟩ := hvs; subst hv1; subst hv2
  obtain ⟨q4, hq, h⟩ := sw_bnd h
  refine B_X11_rumour_71  (FC_X11_triesAnew (Nat.le_refl _) hq) (Nat.lt_of_lt_of_le (by decide) hd) (fun s hvs => ?_)
  subst hvs
  refine B_X11_rumour_77  (fun hc => ?_) (fun hc => ?_)
  · rw [if_pos hc] at h
    refine B_X11_rumour_87  ?_
    exact SC_X11_rumour_94 hd h35 h
  · rw [if_neg hc] at h
    refine B_X11_rumour_84  ?_
    exact SC_X11_rumour_94 hd h35 h
noncomputable def S_X11_rumour_35 (c35 : sw_St → Int32 → Int32 → Int32 → Int32 → Int32 → Option (Int32 × sw_St)) (σ : sw_St) (x1 : Int32) (x2 : Int32) (x3 : Int32) (x4 : Int32) (x5 : Int32) : Option (Int32 × sw_St) :=
  (F_X11_gapMany σ ).bind fun q1 => if q1.1 ≤ x5 then ((F_X11_takesBack q1.2 ).bind fun q2 => if x2 = 0 then (S_X11_rumour_114 q2.2 x3) else (S_X11_rumour_114 q2.2 x4)) else (if x5 = (-1) then (S_X11_rumour_59 c35 q1.2 x1 x2 x3 x4 x5 0) else (S_X11_rumour_59 c35 q1.2 x1 x2 x3 x4 x5 ((1 : Int32) <<< (x5 &&& 31))))
theorem SC_X11_rumour_35 {E : sw_E} {d : Nat} (hd : 8 ≤ d) {p : Int32 × sw_St} {c35 : sw_St → Int32 → Int32 → Int32 → Int32 → Int32 → Option (Int32 × sw_St)} (h35 : ∀ (σ : sw_St) (x1 : Int32) (x2 : Int32) (x3 : Int32) (x4 : Int32) (x5 : Int32), c35 σ x1 x2 x3 x4 x5 = some p → sw_W E sw_gM m_X11_rumour d 35 [(0, .ref 0), (1, .int x1), (2, .int x2), (3, .int x3), (4, .int x4), (5, .int x5)] [] σ (sw_pI p)) {σ : sw_St} {x1 : Int32} {x2 : Int32} {x3 : Int32} {x4 : Int32} {x5 : Int32} (h : S_X11_rumour_35 c35 σ x1 x2 x3 x4 x5 = some p) : sw_W E sw_gM m_X11_rumour d 35 [(0, .ref 0), (1, .int x1), (2, .int x2), (3, .int x3), (4, .int x4), (5, .int x5)] [] σ (sw_pI p) := by
  unfold S_X11_rumour_35 at h
  obtain ⟨q1, hq, h⟩ := sw_bnd h
  refine B_X11_rumour_35  (FC_X11_gapMany (Nat.le_refl _) hq) (Nat.lt_of_lt_of_le (by decide) hd) (fun v s hvs => ?_)
  obtain ⟨hv1, hv2⟩ := hvs; subst hv1; subst hv2
  refine B_X11_rumour_41  (fun hc => ?_) (fun hc => ?_)
  · rw [if_pos hc] at h
    obtain ⟨q2, hq, h⟩ := sw_bnd h
    refine B_X11_rumour_100  (FC_X11_takesBack (Nat.le_refl _) hq) (Nat.lt_of_lt_of_le (by decide) hd) (fun s hvs => ?_)
    subst hvs
    refine B_X11_rumour_104  (fun hc => ?_) (fun hc => ?_)
    · rw [if_neg hc] at h
      refine B_X11_rumour_112  ?_
      exact SC_X11_rumour_114 hd h
    · rw [if_pos hc] at h
      refine B_X11_rumour_108  ?_
      exact SC_X11_rumour_114 hd h
  · rw [if_neg hc] at h
    refine B_X11_rumour_44  (fun hc => ?_) (fun hc => ?_)
    · rw [if_neg hc] at h
      refine B_X11_rumour_55  ?_
      exact SC_X11_rumour_59 hd h35 h
    · rw [if_pos hc] at h
      refine B_X11_rumour_51  ?_
      exact SC_X11_rumour_59 hd h35 h
noncomputable def L_X11_rumour_35 : Nat → sw_St → Int32 → Int32 → Int32 → Int32 → Int32 → Option (Int32 × sw_St)
  | 0, _, _, _, _, _, _ => none
  | k + 1, σ, x1, x2, x3, x4, x5 => S_X11_rumour_35 (fun σ x1 x2 x3 x4 x5 => L_X11_rumour_35 k σ x1 x2 x3 x4 x5) σ x1 x2 x3 x4 x5
theorem LC_X11_rumour_35 {E : sw_E} {d : Nat} (hd : 8 ≤ d) {p : Int32 × sw_St} : ∀ (k : Nat) (σ : sw_St) (x1 : Int32) (x2 : Int32) (x3 : Int32) (x4 : Int32) (x5 : Int32), L_X11_rumour_35 k σ x1 x2 x3 x4 x5 = some p → sw_W E sw_gM m_X11_rumour d 35 [(0, .ref 0), (1, .int x1), (2, .int x2), (3, .int x3), (4, .int x4), (5, .int x5)] [] σ (sw_pI p) := by
  intro k
  induction k with
  | zero => intro σ x1 x2 x3 x4 x5 h; cases h
  | succ k ih => intro σ x1 x2 x3 x4 x5 h; exact SC_X11_rumour_35 hd ih h
noncomputable def F_X11_rumour (σ : sw_St) (x1 : Int32) (x2 : Int32) : Option (Int32 × sw_St) :=
  (F_X11_isAhead σ x1 1 40).bind fun q1 => if q1.1 = 0 then (S_X11_rumour_21 q1.2 ) else ((F_X11_isIn q1.2 x2.toInt64 0 1).bind fun q2 => if q2.1 = 0 then (S_X11_rumour_21 q2.2 ) else ((F_X11_putsAside q2.2 ).bind fun q3 => L_X11_rumour_35 sw_fuel q3.2 x1 x2 (-1) (-1) (-1)))
theorem FC_X11_rumour {E : sw_E} {d : Nat} (hd : 8 ≤ d) {p : Int32 × sw_St} {σ : sw_St} {x1 : Int32} {x2 : Int32} (h : F_X11_rumour σ x1 x2 = some p) : sw_KI E sw_gM m_X11_rumour d [.ref 0, .int x1, .int x2] σ (fun v s => v = p.1 ∧ s = p.2) := by
  unfold F_X11_rumour at h
  refine sw_K.of (by decide +kernel) rfl (Nat.le_of_ble_eq_true rfl) ?_
  show sw_W E sw_gM m_X11_rumour d 0 [(0, .ref 0), (1, .int x1), (2, .int x2)] [] σ (sw_pI p)
  obtain ⟨q1, hq, h⟩ := sw_bnd h
  refine B_X11_rumour_0  (FC_X11_isAhead (Nat.le_refl _) hq) (Nat.lt_of_lt_of_le (by decide) hd) (fun v s hvs => ?_)
  obtain ⟨hv1, hv2⟩ := hvs; subst hv1; subst hv2
  refine B_X11_rumour_8  (fun hc => ?_) (fun hc => ?_)
  · rw [if_pos hc] at h
    exact SC_X11_rumour_21 hd h
  · rw [if_neg hc] at h
    obtain ⟨q2, hq, h⟩ := sw_bnd h
    refine B_X11_rumour_11  (FC_X11_isIn (Nat.le_refl _) hq) (Nat.lt_of_lt_of_le (by decide) hd) (fun v s hvs => ?_)
    obtain ⟨hv1, hv2⟩ := hvs; subst hv1; subst hv2
    refine B_X11_rumour_18  (fun hc => ?_) (fun hc => ?_)
    · rw [if_neg hc] at h
      obtain ⟨q3, hq, h⟩ := sw_bnd h
      refine B_X11_rumour_23  (FC_X11_putsAside (Nat.le_refl _) hq) (Nat.lt_of_lt_of_le (by decide) hd) (fun s hvs => ?_)
      subst hvs
      refine B_X11_rumour_32  ?_
      exact LC_X11_rumour_35 hd _ _ _ _ _ _ _ h
    · rw [if_pos hc] at h
      exact SC_X11_rumour_21 hd h
/-! StrayWoolModel.waits(III)I -/
noncomputable def S_X11_waits_29 (σ : sw_St) : Option (Int32 × sw_St) :=
  some ((-1), σ)
theorem SC_X11_waits_29 {E : sw_E} {d : Nat} (hd : 7 ≤ d) {p : Int32 × sw_St} {σ : sw_St} (h : S_X11_waits_29 σ  = some p) : sw_W E sw_gM m_X11_waits d 29 [] [] σ (sw_pI p) := by
  unfold S_X11_waits_29 at h
  cases h
  exact B_X11_waits_29  ⟨_, rfl, rfl, rfl⟩
noncomputable def S_X11_waits_99 (σ : sw_St) (sx0 : Int32) : Option (Int32 × sw_St) :=
  some (sx0, σ)
theorem SC_X11_waits_99 {E : sw_E} {d : Nat} (hd : 7 ≤ d) {p : Int32 × sw_St} {σ : sw_St} {sx0 : Int32} (h : S_X11_waits_99 σ sx0 = some p) : sw_W E sw_gM m_X11_waits d 99 [] [.int sx0] σ (sw_pI p) := by
  unfold S_X11_waits_99 at h
  cases h
  exact B_X11_waits_99  ⟨_, rfl, rfl, rfl⟩
noncomputable def S_X11_waits_72 (c44 : sw_St → Int32 → Int32 → Int32 → Int32 → Int32 → Int32 → Option (Int32 × sw_St)) (σ : sw_St) (x1 : Int32) (x2 : Int32) (x3 : Int32) (x4 : Int32) (x5 : Int32) (x6 : Int32) : Option (Int32 × sw_St) :=
  (F_X11_oneGoes σ x1 1).bind fun q1 => c44 q1.2 x1 x2 x3 x4 x5 (x6 + 1)
theorem SC_X11_waits_72 {E : sw_E} {d : Nat} (hd : 7 ≤ d) {p : Int32 × sw_St} {c44 : sw_St → Int32 → Int32 → Int32 → Int32 → Int32 → Int32 → Option (Int32 × sw_St)} (h44 : ∀ (σ : sw_St) (x1 : Int32) (x2 : Int32) (x3 : Int32) (x4 : Int32) (x5 : Int32) (x6 : Int32), c44 σ x1 x2 x3 x4 x5 x6 = some p → sw_W E sw_gM m_X11_waits d 44 [(0, .ref 0), (1, .int x1), (2, .int x2), (3, .int x3), (4, .int x4), (5, .int x5), (6, .int x6)] [] σ (sw_pI p)) {σ : sw_St} {x1 : Int32} {x2 : Int32} {x3 : Int32} {x4 : Int32} {x5 : Int32} {x6 : Int32} (h : S_X11_waits_72 c44 σ x1 x2 x3 x4 x5 x6 = some p) : sw_W E sw_gM m_X11_waits d 72 [(0, .ref 0), (1, .int x1), (2, .int x2), (3, .int x3), (4, .int x4), (5, .int x5), (6, .int x6)] [] σ (sw_pI p) := by
  unfold S_X11_waits_72 at h
  obtain ⟨q1, hq, h⟩ := sw_bnd h
  refine B_X11_waits_72  (FC_X11_oneGoes (Nat.le_refl _) hq) (Nat.lt_of_lt_of_le (by decide) hd) (fun s hvs => ?_)
  subst hvs
  refine B_X11_waits_78  ?_
  exact h44 _ _ _ _ _ _ _ h
noncomputable def S_X11_waits_44 (c44 : sw_St → Int32 → Int32 → Int32 → Int32 → Int32 → Int32 → Option (Int32 × sw_St)) (σ : sw_St) (x1 : Int32) (x2 : Int32) (x3 : Int32) (x4 : Int32) (x5 : Int32) (x6 : Int32) : Option (Int32 × sw_St) :=
  if x2 < x6 then ((F_X11_takesBack σ ).bind fun q1 => if x3 = 0 then (S_X11_waits_99 q1.2 x4) else (S_X11_waits_99 q1.2 x5)) else ((F_X11_worthOf σ x1).bind fun q2 => if q2.1 ≤ x5 then (S_X11_waits_72 c44 q2.2 x1 x2 x3 x4 x5 x6) else (S_X11_waits_72 c44 q2.2 x1 x2 x3 x6 q2.1 x6))
theorem SC_X11_waits_44 {E : sw_E} {d : Nat} (hd : 7 ≤ d) {p : Int32 × sw_St} {c44 : sw_St → Int32 → Int32 → Int32 → Int32 → Int32 → Int32 → Option (Int32 × sw_St)} (h44 : ∀ (σ : sw_St) (x1 : Int32) (x2 : Int32) (x3 : Int32) (x4 : Int32) (x5 : Int32) (x6 : Int32), c44 σ x1 x2 x3 x4 x5 x6 = some p → sw_W E sw_gM m_X11_waits d 44 [(0, .ref 0), (1, .int x1), (2, .int x2), (3, .int x3), (4, .int x4), (5, .int x5), (6, .int x6)] [] σ (sw_pI p)) {σ : sw_St} {x1 : Int32} {x2 : Int32} {x3 : Int32} {x4 : Int32} {x5 : Int32} {x6 : Int32} (h : S_X11_waits_44 c44 σ x1 x2 x3 x4 x5 x6 = some p) : sw_W E sw_gM m_X11_waits d 44 [(0, .ref 0), (1, .int x1), (2, .int x2), (3, .int x3), (4, .int x4), (5, .int x5), (6, .int x6)] [] σ (sw_pI p) := by
  unfold S_X11_waits_44 at h
  refine B_X11_waits_44  (fun hc => ?_) (fun hc => ?_)
  · rw [if_pos hc] at h
    obtain ⟨q1, hq, h⟩ := sw_bnd h
    refine B_X11_waits_84  (FC_X11_takesBack (Nat.le_refl _) hq) (Nat.lt_of_lt_of_le (by decide) hd) (fun s hvs => ?_)
    subst hvs
    refine B_X11_waits_88  (fun hc => ?_) (fun hc => ?_)
    · rw [if_neg hc] at h
      refine B_X11_waits_97  ?_
      exact SC_X11_waits_99 hd h
    · rw [if_pos hc] at h
      refine B_X11_waits_92  ?_
      exact SC_X11_waits_99 hd h
  · rw [if_neg hc] at h
    obtain ⟨q2, hq, h⟩ := sw_bnd h
    refine B_X11_waits_50  (FC_X11_worthOf (Nat.le_refl _) hq) (Nat.lt_of_lt_of_le (by decide) hd) (fun v s hvs => ?_)
    obtain ⟨hv1, hv2⟩ := hvs; subst hv1; subst hv2
    refine B_X11_waits_55  (fun hc => ?_) (fun hc => ?_)
    · rw [if_pos hc] at h
      exact SC_X11_waits_72 hd h44 h
    · rw [if_neg hc] at h
      refine B_X11_waits_64  ?_
      exact SC_X11_waits_72 hd h44 h
noncomputable def L_X11_waits_44 : Nat → sw_St → Int32 → Int32 → Int32 → Int32 → Int32 → Int32 → Option (Int32 × sw_St)
  | 0, _, _, _, _, _, _, _ => none
  | k + 1, σ, x1, x2, x3, x4, x5, x6 => S_X11_waits_44 (fun σ x1 x2 x3 x4 x5 x6 => L_X11_waits_44 k σ x1 x2 x3 x4 x5 x6) σ x1 x2 x3 x4 x5 x6
theorem LC_X11_waits_44 {E : sw_E} {d : Nat} (hd : 7 ≤ d) {p : Int32 × sw_St} : ∀ (k : Nat) (σ : sw_St) (x1 : Int32) (x2 : Int32) (x3 : Int32) (x4 : Int32) (x5 : Int32) (x6 : Int32), L_X11_waits_44 k σ x1 x2 x3 x4 x5 x6 = some p → sw_W E sw_gM m_X11_waits d 44 [(0, .ref 0), (1, .int x1), (2, .int x2), (3, .int x3), (4, .int x4), (5, .int x5), (6, .int x6)] [] σ (sw_pI p) := by
  intro k
  induction k with
  | zero => intro σ x1 x2 x3 x4 x5 x6 h; cases h
  | succ k ih => intro σ x1 x2 x3 x4 x5 x6 h; exact SC_X11_waits_44 hd ih h
noncomputable def F_X11_waits (σ : sw_St) (x1 : Int32) (x2 : Int32) (x3 : Int32) : Option (Int32 × sw_St) :=
  (F_X11_isSheep σ x1).bind fun q1 => if q1.1 = 0 then (S_X11_waits_29 q1.2 ) else ((F_X11_isAhead q1.2 x2 0 60).bind fun q2 => if q2.1 = 0 then (S_X11_waits_29 q2.2 ) else ((F_X11_isIn q2.2 x3.toInt64 0 1).bind fun q3 => if q3.1 = 0 then (S_X11_waits_29 q3.2 ) else ((F_X11_putsAside q3.2 ).bind fun q4 => L_X11_waits_44 sw_fuel q4.2 x1 x2 x3 (-1) (-1) 0)))
theorem FC_X11_waits {E : sw_E} {d : Nat} (hd : 7 ≤ d) {p : Int32 × sw_St} {σ : sw_St} {x1 : Int32} {x2 : Int32} {x3 : Int32} (h : F_X11_waits σ x1 x2 x3 = some p) : sw_KI E sw_gM m_X11_waits d [.ref 0, .int x1, .int x2, .int x3] σ (fun v s => v = p.1 ∧ s = p.2) := by
  unfold F_X11_waits at h
  refine sw_K.of (by decide +kernel) rfl (Nat.le_of_ble_eq_true rfl) ?_
  show sw_W E sw_gM m_X11_waits d 0 [(0, .ref 0), (1, .int x1), (2, .int x2), (3, .int x3)] [] σ (sw_pI p)
  obtain ⟨q1, hq, h⟩ := sw_bnd h
  refine B_X11_waits_0  (FC_X11_isSheep (Nat.le_refl _) hq) (Nat.lt_of_lt_of_le (by decide) hd) (fun v s hvs => ?_)
  obtain ⟨hv1, hv2⟩ := hvs; subst hv1; subst hv2
  refine B_X11_waits_5  (fun hc => ?_) (fun hc => ?_)
  · rw [if_pos hc] at h
    exact SC_X11_waits_29 hd h
  · rw [if_neg hc] at h
    obtain ⟨q2, hq, h⟩ := sw_bnd h
    refine B_X11_waits_8  (FC_X11_isAhead (Nat.le_refl _) hq) (Nat.lt_of_lt_of_le (by decide) hd) (fun v s hvs => ?_)
    obtain ⟨hv1, hv2⟩ := hvs; subst hv1; subst hv2
    refine B_X11_waits_16  (fun hc => ?_) (fun hc => ?_)
    · rw [if_pos hc] at h
      exact SC_X11_waits_29 hd h
    · rw [if_neg hc] at h
      obtain ⟨q3, hq, h⟩ := sw_bnd h
      refine B_X11_waits_19  (FC_X11_isIn (Nat.le_refl _) hq) (Nat.lt_of_lt_of_le (by decide) hd) (fun v s hvs => ?_)
      obtain ⟨hv1, hv2⟩ := hvs; subst hv1; subst hv2
      refine B_X11_waits_26  (fun hc => ?_) (fun hc => ?_)
      · rw [if_neg hc] at h
        obtain ⟨q4, hq, h⟩ := sw_bnd h
        refine B_X11_waits_31  (FC_X11_putsAside (Nat.le_refl _) hq) (Nat.lt_of_lt_of_le (by decide) hd) (fun s hvs => ?_)
        subst hvs
        refine B_X11_waits_41  ?_
        exact LC_X11_waits_44 hd _ _ _ _ _ _ _ _ h
      · rw [if_pos hc] at h
        exact SC_X11_waits_29 hd h
/-! StrayWoolModel.watch(I)I -/
noncomputable def S_X11_watch_110 (c26 : sw_St → Int32 → Int32 → Option (Int32 × sw_St)) (σ : sw_St) (x2 : Int32) (x3 : Int32) : Option (Int32 × sw_St) :=
  c26 σ x2 (x3 + 1)
theorem SC_X11_watch_110 {E : sw_E} {d : Nat} (hd : 8 ≤ d) {p : Int32 × sw_St} {c26 : sw_St → Int32 → Int32 → Option (Int32 × sw_St)} (h26 : ∀ (σ : sw_St) (x2 : Int32) (x3 : Int32), c26 σ x2 x3 = some p → sw_W E sw_gM m_X11_watch d 26 [(0, .ref 0), (2, .int x2), (3, .int x3)] [] σ (sw_pI p)) {σ : sw_St} {x2 : Int32} {x3 : Int32} (h : S_X11_watch_110 c26 σ x2 x3 = some p) : sw_W E sw_gM m_X11_watch d 110 [(0, .ref 0), (2, .int x2), (3, .int x3)] [] σ (sw_pI p) := by
  unfold S_X11_watch_110 at h
  refine B_X11_watch_110  ?_
  exact h26 _ _ _ h
noncomputable def S_X11_watch_103 (c26 : sw_St → Int32 → Int32 → Option (Int32 × sw_St)) (σ : sw_St) (x2 : Int32) (x3 : Int32) (x4 : Int32) : Option (Int32 × sw_St) :=
  if x4 = 0 then (S_X11_watch_110 c26 σ x2 x3) else (S_X11_watch_110 c26 σ x3 x3)
theorem SC_X11_watch_103 {E : sw_E} {d : Nat} (hd : 8 ≤ d) {p : Int32 × sw_St} {c26 : sw_St → Int32 → Int32 → Option (Int32 × sw_St)} (h26 : ∀ (σ : sw_St) (x2 : Int32) (x3 : Int32), c26 σ x2 x3 = some p → sw_W E sw_gM m_X11_watch d 26 [(0, .ref 0), (2, .int x2), (3, .int x3)] [] σ (sw_pI p)) {σ : sw_St} {x2 : Int32} {x3 : Int32} {x4 : Int32} (h : S_X11_watch_103 c26 σ x2 x3 x4 = some p) : sw_W E sw_gM m_X11_watch d 103 [(0, .ref 0), (2, .int x2), (3, .int x3), (4, .int x4)] [] σ (sw_pI p) := by
  unfold S_X11_watch_103 at h
  refine B_X11_watch_103  (fun hc => ?_) (fun hc => ?_)
  · rw [if_pos hc] at h
    exact SC_X11_watch_110 hd h26 h
  · rw [if_neg hc] at h
    refine B_X11_watch_108  ?_
    exact SC_X11_watch_110 hd h26 h
noncomputable def S_X11_watch_95 (c26 : sw_St → Int32 → Int32 → Option (Int32 × sw_St)) (c61 : sw_St → Int32 → Int32 → Int32 → Int32 → Option (Int32 × sw_St)) (σ : sw_St) (x2 : Int32) (x3 : Int32) (x5 : Int32) (sx0 : Int32) : Option (Int32 × sw_St) :=
  c61 σ x2 x3 sx0 (x5 + 1)
theorem SC_X11_watch_95 {E : sw_E} {d : Nat} (hd : 8 ≤ d) {p : Int32 × sw_St} {c26 : sw_St → Int32 → Int32 → Option (Int32 × sw_St)} {c61 : sw_St → Int32 → Int32 → Int32 → Int32 → Option (Int32 × sw_St)} (h26 : ∀ (σ : sw_St) (x2 : Int32) (x3 : Int32), c26 σ x2 x3 = some p → sw_W E sw_gM m_X11_watch d 26 [(0, .ref 0), (2, .int x2), (3, .int x3)] [] σ (sw_pI p)) (h61 : ∀ (σ : sw_St) (x2 : Int32) (x3 : Int32) (x4 : Int32) (x5 : Int32), c61 σ x2 x3 x4 x5 = some p → sw_W E sw_gM m_X11_watch d 61 [(0, .ref 0), (2, .int x2), (3, .int x3), (4, .int x4), (5, .int x5)] [] σ (sw_pI p)) {σ : sw_St} {x2 : Int32} {x3 : Int32} {x5 : Int32} {sx0 : Int32} (h : S_X11_watch_95 c26 c61 σ x2 x3 x5 sx0 = some p) : sw_W E sw_gM m_X11_watch d 95 [(0, .ref 0), (2, .int x2), (3, .int x3), (5, .int x5)] [.int sx0] σ (sw_pI p) := by
  unfold S_X11_watch_95 at h
  refine B_X11_watch_95  ?_
  exact h61 _ _ _ _ _ h
noncomputable def S_X11_watch_61 (c26 : sw_St → Int32 → Int32 → Option (Int32 × sw_St)) (c61 : sw_St → Int32 → Int32 → Int32 → Int32 → Option (Int32 × sw_St)) (σ : sw_St) (x2 : Int32) (x3 : Int32) (x4 : Int32) (x5 : Int32) : Option (Int32 × sw_St) :=
  (F_X11_sheepMany σ ).bind fun q1 => if q1.1 ≤ x5 then (S_X11_watch_103 c26 q1.2 x2 x3 x4) else (if x4 = 0 then (S_X11_watch_103 c26 q1.2 x2 x3 x4) else ((F_X11_fieldOf q1.2 x5).bind fun q2 => (F_X11_watchers q2.2 q2.1).bind fun q3 => if (q3.1 &&& x3) = 0 then (S_X11_watch_95 c26 c61 q3.2 x2 x3 x5 0) else (S_X11_watch_95 c26 c61 q3.2 x2 x3 x5 1)))
theorem SC_X11_watch_61 {E : sw_E} {d : Nat} (hd : 8 ≤ d) {p : Int32 × sw_St} {c26 : sw_St → Int32 → Int32 → Option (Int32 × sw_St)} {c61 : sw_St → Int32 → Int32 → Int32 → Int32 → Option (Int32 × sw_St)} (h26 : ∀ (σ : sw_St) (x2 : Int32) (x3 : Int32), c26 σ x2 x3 = some p → sw_W E sw_gM m_X11_watch d 26 [(0, .ref 0), (2, .int x2), (3, .int x3)] [] σ (sw_pI p)) (h61 : ∀ (σ : sw_St) (x2 : Int32) (x3 : Int32) (x4 : Int32) (x5 : Int32), c61 σ x2 x3 x4 x5 = some p → sw_W E sw_gM m_X11_watch d 61 [(0, .ref 0), (2, .int x2), (3, .int x3), (4, .int x4), (5, .int x5)] [] σ (sw_pI p)) {σ : sw_St} {x2 : Int32} {x3 : Int32} {x4 : Int32} {x5 : Int32} (h : S_X11_watch_61 c26 c61 σ x2 x3 x4 x5 = some p) : sw_W E sw_gM m_X11_watch d 61 [(0, .ref 0), (2, .int x2), (3, .int x3), (4, .int x4), (5, .int x5)] [] σ (sw_pI p) := by
  unfold S_X11_watch_61 at h
  obtain ⟨q1, hq, h⟩ := sw_bnd h
  refine B_X11_watch_61  (FC_X11_sheepMany (Nat.le_refl _) hq) (Nat.lt_of_lt_of_le (by decide) hd) (fun v s hvs => ?_)
  obtain ⟨hv1, hv2⟩ := hvs; subst hv1; subst hv2
  refine B_X11_watch_67  (fun hc => ?_) (fun hc => ?_)
  · rw [if_pos hc] at h
    exact SC_X11_watch_103 hd h26 h
  · rw [if_neg hc] at h
    refine B_X11_watch_70  (fun hc => ?_) (fun hc => ?_)
    · rw [if_pos hc] at h
      exact SC_X11_watch_103 hd h26 h
    · rw [if_neg hc] at h
      obtain ⟨q2, hq, h⟩ := sw_bnd h
      refine B_X11_watch_75  (FC_X11_fieldOf (Nat.le_refl _) hq) (Nat.lt_of_lt_of_le (by decide) hd) (fun v s hvs => ?_)
      obtain ⟨hv1, hv2⟩ := hvs; subst hv1; subst hv2
      obtain ⟨q3, hq, h⟩ := sw_bnd h
      refine B_X11_watch_82  (FC_X11_watchers (Nat.le_refl _) hq) (Nat.lt_of_lt_of_le (by decide) hd) (fun v s hvs => ?_)
      obtain ⟨hv1, hv2⟩ := hvs; subst hv1; subst hv2
      refine B_X11_watch_85  (fun hc => ?_) (fun hc => ?_)
      · rw [if_pos hc] at h
        refine B_X11_watch_94  ?_
        exact SC_X11_watch_95 hd h26 h61 h
      · rw [if_neg hc] at h
        refine B_X11_watch_90  ?_
        exact SC_X11_watch_95 hd h26 h61 h
noncomputable def L_X11_watch_61 (c26 : sw_St → Int32 → Int32 → Option (Int32 × sw_St)) : Nat → sw_St → Int32 → Int32 → Int32 → Int32 → Option (Int32 × sw_St)
  | 0, _, _, _, _, _ => none
  | k + 1, σ, x2, x3, x4, x5 => S_X11_watch_61 c26 (fun σ x2 x3 x4 x5 => L_X11_watch_61 c26 k σ x2 x3 x4 x5) σ x2 x3 x4 x5
theorem LC_X11_watch_61 {E : sw_E} {d : Nat} (hd : 8 ≤ d) {p : Int32 × sw_St} {c26 : sw_St → Int32 → Int32 → Option (Int32 × sw_St)} (h26 : ∀ (σ : sw_St) (x2 : Int32) (x3 : Int32), c26 σ x2 x3 = some p → sw_W E sw_gM m_X11_watch d 26 [(0, .ref 0), (2, .int x2), (3, .int x3)] [] σ (sw_pI p)) : ∀ (k : Nat) (σ : sw_St) (x2 : Int32) (x3 : Int32) (x4 : Int32) (x5 : Int32), L_X11_watch_61 c26 k σ x2 x3 x4 x5 = some p → sw_W E sw_gM m_X11_watch d 61 [(0, .ref 0), (2, .int x2), (3, .int x3), (4, .int x4), (5, .int x5)] [] σ (sw_pI p) := by
  intro k
  induction k with
  | zero => intro σ x2 x3 x4 x5 h; cases h
  | succ k ih => intro σ x2 x3 x4 x5 h; exact SC_X11_watch_61 hd h26 ih h
noncomputable def S_X11_watch_55 (c26 : sw_St → Int32 → Int32 → Option (Int32 × sw_St)) (σ : sw_St) (x2 : Int32) (x3 : Int32) : Option (Int32 × sw_St) :=
  L_X11_watch_61 c26 sw_fuel σ x2 x3 1 0
theorem SC_X11_watch_55 {E : sw_E} {d : Nat} (hd : 8 ≤ d) {p : Int32 × sw_St} {c26 : sw_St → Int32 → Int32 → Option (Int32 × sw_St)} (h26 : ∀ (σ : sw_St) (x2 : Int32) (x3 : Int32), c26 σ x2 x3 = some p → sw_W E sw_gM m_X11_watch d 26 [(0, .ref 0), (2, .int x2), (3, .int x3)] [] σ (sw_pI p)) {σ : sw_St} {x2 : Int32} {x3 : Int32} (h : S_X11_watch_55 c26 σ x2 x3 = some p) : sw_W E sw_gM m_X11_watch d 55 [(0, .ref 0), (2, .int x2), (3, .int x3)] [] σ (sw_pI p) := by
  unfold S_X11_watch_55 at h
  refine B_X11_watch_55  ?_
  exact LC_X11_watch_61 hd h26 _ _ _ _ _ _ h
noncomputable def S_X11_watch_26 (c26 : sw_St → Int32 → Int32 → Option (Int32 × sw_St)) (σ : sw_St) (x2 : Int32) (x3 : Int32) : Option (Int32 × sw_St) :=
  (F_X11_fieldMany σ ).bind fun q1 => if ((1 : Int32) <<< (q1.1 &&& 31)) ≤ x3 then ((F_X11_takesBack q1.2 ).bind fun q2 => some (x2, q2.2)) else (if x2 = (-1) then (S_X11_watch_55 c26 q1.2 x2 x3) else ((F_X11_bits q1.2 x3).bind fun q3 => (F_X11_bits q3.2 x2).bind fun q4 => if q3.1 < q4.1 then (S_X11_watch_55 c26 q4.2 x2 x3) else (S_X11_watch_110 c26 q4.2 x2 x3)))
theorem SC_X11_watch_26 {E : sw_E} {d : Nat} (hd : 8 ≤ d) {p : Int32 × sw_St} {c26 : sw_St → Int32 → Int32 → Option (Int32 × sw_St)} (h26 : ∀ (σ : sw_St) (x2 : Int32) (x3 : Int32), c26 σ x2 x3 = some p → sw_W E sw_gM m_X11_watch d 26 [(0, .ref 0), (2, .int x2), (3, .int x3)] [] σ (sw_pI p)) {σ : sw_St} {x2 : Int32} {x3 : Int32} (h : S_X11_watch_26 c26 σ x2 x3 = some p) : sw_W E sw_gM m_X11_watch d 26 [(0, .ref 0), (2, .int x2), (3, .int x3)] [] σ (sw_pI p) := by
  unfold S_X11_watch_26 at h
  obtain ⟨q1, hq, h⟩ := sw_bnd h
  refine B_X11_watch_26  (FC_X11_fieldMany (Nat.le_refl _) hq) (Nat.lt_of_lt_of_le (by decide) hd) (fun v s hvs => ?_)
  obtain ⟨hv1, hv2⟩ := hvs; subst hv1; subst hv2
  refine B_X11_watch_32  (fun hc => ?_) (fun hc => ?_)
  · rw [if_pos hc] at h
    obtain ⟨q2, hq, h⟩ := sw_bnd h
    refine B_X11_watch_116  (FC_X11_takesBack (Nat.le_refl _) hq) (Nat.lt_of_lt_of_le (by decide) hd) (fun s hvs => ?_)
    subst hvs
    cases h
    exact B_X11_watch_120  ⟨_, rfl, rfl, rfl⟩
  · rw [if_neg hc] at h
    refine B_X11_watch_36  (fun hc => ?_) (fun hc => ?_)
    · rw [if_pos hc] at h
      exact SC_X11_watch_55 hd h26 h
    · rw [if_neg hc] at h
      obtain ⟨q3, hq, h⟩ := sw_bnd h
      refine B_X11_watch_41  (FC_X11_bits (Nat.le_refl _) hq) (Nat.lt_of_lt_of_le (by decide) hd) (fun v s hvs => ?_)
      obtain ⟨hv1, hv2⟩ := hvs; subst hv1; subst hv2
      obtain ⟨q4, hq, h⟩ := sw_bnd h
      refine B_X11_watch_45  (FC_X11_bits (Nat.le_refl _) hq) (Nat.lt_of_lt_of_le (by decide) hd) (fun v s hvs => ?_)
      obtain ⟨hv1, hv2⟩ := hvs; subst hv1; subst hv2
      refine B_X11_watch_49  (fun hc => ?_) (fun hc => ?_)
      · rw [if_pos hc] at h
        exact SC_X11_watch_55 hd h26 h
      · rw [if_neg hc] at h
        refine B_X11_watch_52  ?_
        exact SC_X11_watch_110 hd h26 h
noncomputable def L_X11_watch_26 : Nat → sw_St → Int32 → Int32 → Option (Int32 × sw_St)
  | 0, _, _, _ => none
  | k + 1, σ, x2, x3 => S_X11_watch_26 (fun σ x2 x3 => L_X11_watch_26 k σ x2 x3) σ x2 x3
theorem LC_X11_watch_26 {E : sw_E} {d : Nat} (hd : 8 ≤ d) {p : Int32 × sw_St} : ∀ (k : Nat) (σ : sw_St) (x2 : Int32) (x3 : Int32), L_X11_watch_26 k σ x2 x3 = some p → sw_W E sw_gM m_X11_watch d 26 [(0, .ref 0), (2, .int x2), (3, .int x3)] [] σ (sw_pI p) := by
  intro k
  induction k with
  | zero => intro σ x2 x3 h; cases h
  | succ k ih => intro σ x2 x3 h; exact SC_X11_watch_26 hd ih h
noncomputable def F_X11_watch (σ : sw_St) (x1 : Int32) : Option (Int32 × sw_St) :=
  (F_X11_isAhead σ x1 0 60).bind fun q1 => if q1.1 = 0 then (some ((-1), q1.2)) else ((F_X11_putsAside q1.2 ).bind fun q2 => (F_X11_daysGo q2.2 x1).bind fun q3 => L_X11_watch_26 sw_fuel q3.2 (-1) 0)
theorem FC_X11_watch {E : sw_E} {d : Nat} (hd : 8 ≤ d) {p : Int32 × sw_St} {σ : sw_St} {x1 : Int32} (h : F_X11_watch σ x1 = some p) : sw_KI E sw_gM m_X11_watch d [.ref 0, .int x1] σ (fun v s => v = p.1 ∧ s = p.2) := by
  unfold F_X11_watch at h
  refine sw_K.of (by decide +kernel) rfl (Nat.le_of_ble_eq_true rfl) ?_
  show sw_W E sw_gM m_X11_watch d 0 [(0, .ref 0), (1, .int x1)] [] σ (sw_pI p)
  obtain ⟨q1, hq, h⟩ := sw_bnd h
  refine B_X11_watch_0  (FC_X11_isAhead (Nat.le_refl _) hq) (Nat.lt_of_lt_of_le (by decide) hd) (fun v s hvs => ?_)
  obtain ⟨hv1, hv2⟩ := hvs; subst hv1; subst hv2
  refine B_X11_watch_8  (fun hc => ?_) (fun hc => ?_)
  · rw [if_neg hc] at h
    obtain ⟨q2, hq, h⟩ := sw_bnd h
    refine B_X11_watch_13  (FC_X11_putsAside (Nat.le_refl _) hq) (Nat.lt_of_lt_of_le (by decide) hd) (fun s hvs => ?_)
    subst hvs
    obtain ⟨q3, hq, h⟩ := sw_bnd h
    refine B_X11_watch_19  (FC_X11_daysGo (Nat.le_refl _) hq) (Nat.lt_of_lt_of_le (by decide) hd) (fun s hvs => ?_)
    subst hvs
    refine B_X11_watch_24  ?_
    exact LC_X11_watch_26 hd _ _ _ _ h
  · rw [if_pos hc] at h
    cases h
    exact B_X11_watch_11  ⟨_, rfl, rfl, rfl⟩
/-! StrayWoolModel.curiousSet(I)I -/
noncomputable def S_X11_curiousSet_126 (c13 : sw_St → Int32 → Int32 → Option (Int32 × sw_St)) (σ : sw_St) (x2 : Int32) (x3 : Int32) : Option (Int32 × sw_St) :=
  c13 σ x2 (x3 + 1)
theorem SC_X11_curiousSet_126 {E : sw_E} {d : Nat} (hd : 7 ≤ d) {p : Int32 × sw_St} {c13 : sw_St → Int32 → Int32 → Option (Int32 × sw_St)} (h13 : ∀ (σ : sw_St) (x2 : Int32) (x3 : Int32), c13 σ x2 x3 = some p → sw_W E sw_gM m_X11_curiousSet d 13 [(0, .ref 0), (2, .int x2), (3, .int x3)] [] σ (sw_pI p)) {σ : sw_St} {x2 : Int32} {x3 : Int32} (h : S_X11_curiousSet_126 c13 σ x2 x3 = some p) : sw_W E sw_gM m_X11_curiousSet d 126 [(0, .ref 0), (2, .int x2), (3, .int x3)] [] σ (sw_pI p) := by
  unfold S_X11_curiousSet_126 at h
  refine B_X11_curiousSet_126  ?_
  exact h13 _ _ _ h
noncomputable def S_X11_curiousSet_61 (c13 : sw_St → Int32 → Int32 → Option (Int32 × sw_St)) (c30 : sw_St → Int32 → Int32 → Int32 → Int32 → Option (Int32 × sw_St)) (c61 : sw_St → Int32 → Int32 → Int32 → Int32 → Int32 → Option (Int32 × sw_St)) (σ : sw_St) (x2 : Int32) (x3 : Int32) (x4 : Int32) (x5 : Int32) (x6 : Int32) : Option (Int32 × sw_St) :=
  (F_X11_sheepMany σ ).bind fun q1 => if q1.1 ≤ x6 then ((F_X11_dayGoes q1.2 ).bind fun q2 => c30 q2.2 x2 x3 x4 (x5 + 1)) else ((F_X11_crimpOf q1.2 x6).bind fun q3 => if sw_inb (((186 * x3) + (6 * x5)) + x6) 1860 = true then (c61 (sw_uI q3.2 45 (((186 * x3) + (6 * x5)) + x6).toNatClampNeg q3.1) x2 x3 x4 x5 (x6 + 1)) else none)
theorem SC_X11_curiousSet_61 {E : sw_E} {d : Nat} (hd : 7 ≤ d) {p : Int32 × sw_St} {c13 : sw_St → Int32 → Int32 → Option (Int32 × sw_St)} {c30 : sw_St → Int32 → Int32 → Int32 → Int32 → Option (Int32 × sw_St)} {c61 : sw_St → Int32 → Int32 → Int32 → Int32 → Int32 → Option (Int32 × sw_St)} (h13 : ∀ (σ : sw_St) (x2 : Int32) (x3 : Int32), c13 σ x2 x3 = some p → sw_W E sw_gM m_X11_curiousSet d 13 [(0, .ref 0), (2, .int x2), (3, .int x3)] [] σ (sw_pI p)) (h30 : ∀ (σ : sw_St) (x2 : Int32) (x3 : Int32) (x4 : Int32) (x5 : Int32), c30 σ x2 x3 x4 x5 = some p → sw_W E sw_gM m_X11_curiousSet d 30 [(0, .ref 0), (2, .int x2), (3, .int x3), (4, .int x4), (5, .int x5)] [] σ (sw_pI p)) (h61 : ∀ (σ : sw_St) (x2 : Int32) (x3 : Int32) (x4 : Int32) (x5 : Int32) (x6 : Int32), c61 σ x2 x3 x4 x5 x6 = some p → sw_W E sw_gM m_X11_curiousSet d 61 [(0, .ref 0), (2, .int x2), (3, .int x3), (4, .int x4), (5, .int x5), (6, .int x6)] [] σ (sw_pI p)) {σ : sw_St} {x2 : Int32} {x3 : Int32} {x4 : Int32} {x5 : Int32} {x6 : Int32} (h : S_X11_curiousSet_61 c13 c30 c61 σ x2 x3 x4 x5 x6 = some p) : sw_W E sw_gM m_X11_curiousSet d 61 [(0, .ref 0), (2, .int x2), (3, .int x3), (4, .int x4), (5, .int x5), (6, .int x6)] [] σ (sw_pI p) := by
  unfold S_X11_curiousSet_61 at h
  obtain ⟨q1, hq, h⟩ := sw_bnd h
  refine B_X11_curiousSet_61  (FC_X11_sheepMany (Nat.le_refl _) hq) (Nat.lt_of_lt_of_le (by decide) hd) (fun v s hvs => ?_)
  obtain ⟨hv1, hv2⟩ := hvs; subst hv1; subst hv2
  refine B_X11_curiousSet_67  (fun hc => ?_) (fun hc => ?_)
  · rw [if_pos hc] at h
    obtain ⟨q2, hq, h⟩ := sw_bnd h
    refine B_X11_curiousSet_101  (FC_X11_dayGoes (Nat.le_refl _) hq) (Nat.lt_of_lt_of_le (by decide) hd) (fun s hvs => ?_)
    subst hvs
    refine B_X11_curiousSet_105  ?_
    exact h30 _ _ _ _ _ h
  · rw [if_neg hc] at h
    obtain ⟨q3, hq, h⟩ := sw_bnd h
    refine B_X11_curiousSet_70  (FC_X11_crimpOf (Nat.le_refl _) hq) (Nat.lt_of_lt_of_le (by decide) hd) (fun v s hvs => ?_)
    obtain ⟨hv1, hv2⟩ := hvs; subst hv1; subst hv2
    obtain ⟨o4, h⟩ := sw_ifs h
    refine B_X11_curiousSet_94 (sw_inb_sp o4) ?_
    exact h61 _ _ _ _ _ _ h
noncomputable def L_X11_curiousSet_61 (c13 : sw_St → Int32 → Int32 → Option (Int32 × sw_St)) (c30 : sw_St → Int32 → Int32 → Int32 → Int32 → Option (Int32 × sw_St)) : Nat → sw_St → Int32 → Int32 → Int32 → Int32 → Int32 → Option (Int32 × sw_St)
  | 0, _, _, _, _, _, _ => none
  | k + 1, σ, x2, x3, x4, x5, x6 => S_X11_curiousSet_61 c13 c30 (fun σ x2 x3 x4 x5 x6 => L_X11_curiousSet_61 c13 c30 k σ x2 x3 x4 x5 x6) σ x2 x3 x4 x5 x6
theorem LC_X11_curiousSet_61 {E : sw_E} {d : Nat} (hd : 7 ≤ d) {p : Int32 × sw_St} {c13 : sw_St → Int32 → Int32 → Option (Int32 × sw_St)} {c30 : sw_St → Int32 → Int32 → Int32 → Int32 → Option (Int32 × sw_St)} (h13 : ∀ (σ : sw_St) (x2 : Int32) (x3 : Int32), c13 σ x2 x3 = some p → sw_W E sw_gM m_X11_curiousSet d 13 [(0, .ref 0), (2, .int x2), (3, .int x3)] [] σ (sw_pI p)) (h30 : ∀ (σ : sw_St) (x2 : Int32) (x3 : Int32) (x4 : Int32) (x5 : Int32), c30 σ x2 x3 x4 x5 = some p → sw_W E sw_gM m_X11_curiousSet d 30 [(0, .ref 0), (2, .int x2), (3, .int x3), (4, .int x4), (5, .int x5)] [] σ (sw_pI p)) : ∀ (k : Nat) (σ : sw_St) (x2 : Int32) (x3 : Int32) (x4 : Int32) (x5 : Int32) (x6 : Int32), L_X11_curiousSet_61 c13 c30 k σ x2 x3 x4 x5 x6 = some p → sw_W E sw_gM m_X11_curiousSet d 61 [(0, .ref 0), (2, .int x2), (3, .int x3), (4, .int x4), (5, .int x5), (6, .int x6)] [] σ (sw_pI p) := by
  intro k
  induction k with
  | zero => intro σ x2 x3 x4 x5 x6 h; cases h
  | succ k ih => intro σ x2 x3 x4 x5 x6 h; exact SC_X11_curiousSet_61 hd h13 h30 ih h
noncomputable def S_X11_curiousSet_56 (c13 : sw_St → Int32 → Int32 → Option (Int32 × sw_St)) (c30 : sw_St → Int32 → Int32 → Int32 → Int32 → Option (Int32 × sw_St)) (σ : sw_St) (x2 : Int32) (x3 : Int32) (x5 : Int32) (sx0 : Int32) : Option (Int32 × sw_St) :=
  L_X11_curiousSet_61 c13 c30 sw_fuel σ x2 x3 sx0 x5 0
theorem SC_X11_curiousSet_56 {E : sw_E} {d : Nat} (hd : 7 ≤ d) {p : Int32 × sw_St} {c13 : sw_St → Int32 → Int32 → Option (Int32 × sw_St)} {c30 : sw_St → Int32 → Int32 → Int32 → Int32 → Option (Int32 × sw_St)} (h13 : ∀ (σ : sw_St) (x2 : Int32) (x3 : Int32), c13 σ x2 x3 = some p → sw_W E sw_gM m_X11_curiousSet d 13 [(0, .ref 0), (2, .int x2), (3, .int x3)] [] σ (sw_pI p)) (h30 : ∀ (σ : sw_St) (x2 : Int32) (x3 : Int32) (x4 : Int32) (x5 : Int32), c30 σ x2 x3 x4 x5 = some p → sw_W E sw_gM m_X11_curiousSet d 30 [(0, .ref 0), (2, .int x2), (3, .int x3), (4, .int x4), (5, .int x5)] [] σ (sw_pI p)) {σ : sw_St} {x2 : Int32} {x3 : Int32} {x5 : Int32} {sx0 : Int32} (h : S_X11_curiousSet_56 c13 c30 σ x2 x3 x5 sx0 = some p) : sw_W E sw_gM m_X11_curiousSet d 56 [(0, .ref 0), (2, .int x2), (3, .int x3), (5, .int x5)] [.int sx0] σ (sw_pI p) := by
  unfold S_X11_curiousSet_56 at h
  refine B_X11_curiousSet_56  ?_
  exact LC_X11_curiousSet_61 hd h13 h30 _ _ _ _ _ _ _ h
noncomputable def S_X11_curiousSet_55 (c13 : sw_St → Int32 → Int32 → Option (Int32 × sw_St)) (c30 : sw_St → Int32 → Int32 → Int32 → Int32 → Option (Int32 × sw_St)) (σ : sw_St) (x2 : Int32) (x3 : Int32) (x5 : Int32) : Option (Int32 × sw_St) :=
  S_X11_curiousSet_56 c13 c30 σ x2 x3 x5 0
theorem SC_X11_curiousSet_55 {E : sw_E} {d : Nat} (hd : 7 ≤ d) {p : Int32 × sw_St} {c13 : sw_St → Int32 → Int32 → Option (Int32 × sw_St)} {c30 : sw_St → Int32 → Int32 → Int32 → Int32 → Option (Int32 × sw_St)} (h13 : ∀ (σ : sw_St) (x2 : Int32) (x3 : Int32), c13 σ x2 x3 = some p → sw_W E sw_gM m_X11_curiousSet d 13 [(0, .ref 0), (2, .int x2), (3, .int x3)] [] σ (sw_pI p)) (h30 : ∀ (σ : sw_St) (x2 : Int32) (x3 : Int32) (x4 : Int32) (x5 : Int32), c30 σ x2 x3 x4 x5 = some p → sw_W E sw_gM m_X11_curiousSet d 30 [(0, .ref 0), (2, .int x2), (3, .int x3), (4, .int x4), (5, .int x5)] [] σ (sw_pI p)) {σ : sw_St} {x2 : Int32} {x3 : Int32} {x5 : Int32} (h : S_X11_curiousSet_55 c13 c30 σ x2 x3 x5 = some p) : sw_W E sw_gM m_X11_curiousSet d 55 [(0, .ref 0), (2, .int x2), (3, .int x3), (5, .int x5)] [] σ (sw_pI p) := by
  unfold S_X11_curiousSet_55 at h
  refine B_X11_curiousSet_55  ?_
  exact SC_X11_curiousSet_56 hd h13 h30 h
noncomputable def S_X11_curiousSet_30 (c13 : sw_St → Int32 → Int32 → Option (Int32 × sw_St)) (c30 : sw_St → Int32 → Int32 → Int32 → Int32 → Option (Int32 × sw_St)) (σ : sw_St) (x2 : Int32) (x3 : Int32) (x4 : Int32) (x5 : Int32) : Option (Int32 × sw_St) :=
  if 30 < x5 then ((F_X11_triesAnew σ ).bind fun q1 => if x4 = 0 then (S_X11_curiousSet_126 c13 q1.2 x2 x3) else (S_X11_curiousSet_126 c13 q1.2 (x2 ||| ((1 : Int32) <<< (x3 &&& 31))) x3)) else (if x4 = 0 then (S_X11_curiousSet_55 c13 c30 σ x2 x3 x5) else ((F_X11_isAsFelt σ x5).bind fun q2 => if q2.1 = 0 then (S_X11_curiousSet_55 c13 c30 q2.2 x2 x3 x5) else (S_X11_curiousSet_56 c13 c30 q2.2 x2 x3 x5 1)))
theorem SC_X11_curiousSet_30 {E : sw_E} {d : Nat} (hd : 7 ≤ d) {p : Int32 × sw_St} {c13 : sw_St → Int32 → Int32 → Option (Int32 × sw_St)} {c30 : sw_St → Int32 → Int32 → Int32 → Int32 → Option (Int32 × sw_St)} (h13 : ∀ (σ : sw_St) (x2 : Int32) (x3 : Int32), c13 σ x2 x3 = some p → sw_W E sw_gM m_X11_curiousSet d 13 [(0, .ref 0), (2, .int x2), (3, .int x3)] [] σ (sw_pI p)) (h30 : ∀ (σ : sw_St) (x2 : Int32) (x3 : Int32) (x4 : Int32) (x5 : Int32), c30 σ x2 x3 x4 x5 = some p → sw_W E sw_gM m_X11_curiousSet d 30 [(0, .ref 0), (2, .int x2), (3, .int x3), (4, .int x4), (5, .int x5)] [] σ (sw_pI p)) {σ : sw_St} {x2 : Int32} {x3 : Int32} {x4 : Int32} {x5 : Int32} (h : S_X11_curiousSet_30 c13 c30 σ x2 x3 x4 x5 = some p) : sw_W E sw_gM m_X11_curiousSet d 30 [(0, .ref 0), (2, .int x2), (3, .int x3), (4, .int x4), (5, .int x5)] [] σ (sw_pI p) := by
  unfold S_X11_curiousSet_30 at h
  refine B_X11_curiousSet_30  (fun hc => ?_) (fun hc => ?_)
  · rw [if_pos hc] at h
    obtain ⟨q1, hq, h⟩ := sw_bnd h
    refine B_X11_curiousSet_111  (FC_X11_triesAnew (Nat.le_refl _) hq) (Nat.lt_of_lt_of_le (by decide) hd) (fun s hvs => ?_)
    subst hvs
    refine B_X11_curiousSet_115  (fun hc => ?_) (fun hc => ?_)
    · rw [if_pos hc] at h
      exact SC_X11_curiousSet_126 hd h13 h
    · rw [if_neg hc] at h
      refine B_X11_curiousSet_120  ?_
      exact SC_X11_curiousSet_126 hd h13 h
  · rw [if_neg hc] at h
    refine B_X11_curiousSet_37  (fun hc => ?_) (fun hc => ?_)
    · rw [if_pos hc] at h
      exact SC_X11_curiousSet_55 hd h13 h30 h
    · rw [if_neg hc] at h
      obtain ⟨q2, hq, h⟩ := sw_bnd h
      refine B_X11_curiousSet_42  (FC_X11_isAsFelt (Nat.le_refl _) hq) (Nat.lt_of_lt_of_le (by decide) hd) (fun v s hvs => ?_)
      obtain ⟨hv1, hv2⟩ := hvs; subst hv1; subst hv2
      refine B_X11_curiousSet_48  (fun hc => ?_) (fun hc => ?_)
      · rw [if_pos hc] at h
        exact SC_X11_curiousSet_55 hd h13 h30 h
      · rw [if_neg hc] at h
        refine B_X11_curiousSet_51  ?_
        exact SC_X11_curiousSet_56 hd h13 h30 h
noncomputable def L_X11_curiousSet_30 (c13 : sw_St → Int32 → Int32 → Option (Int32 × sw_St)) : Nat → sw_St → Int32 → Int32 → Int32 → Int32 → Option (Int32 × sw_St)
  | 0, _, _, _, _, _ => none
  | k + 1, σ, x2, x3, x4, x5 => S_X11_curiousSet_30 c13 (fun σ x2 x3 x4 x5 => L_X11_curiousSet_30 c13 k σ x2 x3 x4 x5) σ x2 x3 x4 x5
theorem LC_X11_curiousSet_30 {E : sw_E} {d : Nat} (hd : 7 ≤ d) {p : Int32 × sw_St} {c13 : sw_St → Int32 → Int32 → Option (Int32 × sw_St)} (h13 : ∀ (σ : sw_St) (x2 : Int32) (x3 : Int32), c13 σ x2 x3 = some p → sw_W E sw_gM m_X11_curiousSet d 13 [(0, .ref 0), (2, .int x2), (3, .int x3)] [] σ (sw_pI p)) : ∀ (k : Nat) (σ : sw_St) (x2 : Int32) (x3 : Int32) (x4 : Int32) (x5 : Int32), L_X11_curiousSet_30 c13 k σ x2 x3 x4 x5 = some p → sw_W E sw_gM m_X11_curiousSet d 30 [(0, .ref 0), (2, .int x2), (3, .int x3), (4, .int x4), (5, .int x5)] [] σ (sw_pI p) := by
  intro k
  induction k with
  | zero => intro σ x2 x3 x4 x5 h; cases h
  | succ k ih => intro σ x2 x3 x4 x5 h; exact SC_X11_curiousSet_30 hd h13 ih h
noncomputable def S_X11_curiousSet_13 (c13 : sw_St → Int32 → Int32 → Option (Int32 × sw_St)) (σ : sw_St) (x2 : Int32) (x3 : Int32) : Option (Int32 × sw_St) :=
  if 9 < x3 then ((F_X11_takesBack σ ).bind fun q1 => some (x2, q1.2)) else (L_X11_curiousSet_30 c13 sw_fuel (sw_uI σ 0 53 x3) x2 x3 1 0)
theorem SC_X11_curiousSet_13 {E : sw_E} {d : Nat} (hd : 7 ≤ d) {p : Int32 × sw_St} {c13 : sw_St → Int32 → Int32 → Option (Int32 × sw_St)} (h13 : ∀ (σ : sw_St) (x2 : Int32) (x3 : Int32), c13 σ x2 x3 = some p → sw_W E sw_gM m_X11_curiousSet d 13 [(0, .ref 0), (2, .int x2), (3, .int x3)] [] σ (sw_pI p)) {σ : sw_St} {x2 : Int32} {x3 : Int32} (h : S_X11_curiousSet_13 c13 σ x2 x3 = some p) : sw_W E sw_gM m_X11_curiousSet d 13 [(0, .ref 0), (2, .int x2), (3, .int x3)] [] σ (sw_pI p) := by
  unfold S_X11_curiousSet_13 at h
  refine B_X11_curiousSet_13  (fun hc => ?_) (fun hc => ?_)
  · rw [if_pos hc] at h
    obtain ⟨q1, hq, h⟩ := sw_bnd h
    refine B_X11_curiousSet_132  (FC_X11_takesBack (Nat.le_refl _) hq) (Nat.lt_of_lt_of_le (by decide) hd) (fun s hvs => ?_)
    subst hvs
    cases h
    exact B_X11_curiousSet_136  ⟨_, rfl, rfl, rfl⟩
  · rw [if_neg hc] at h
    refine B_X11_curiousSet_19  ?_
    exact LC_X11_curiousSet_30 hd h13 _ _ _ _ _ _ h
noncomputable def L_X11_curiousSet_13 : Nat → sw_St → Int32 → Int32 → Option (Int32 × sw_St)
  | 0, _, _, _ => none
  | k + 1, σ, x2, x3 => S_X11_curiousSet_13 (fun σ x2 x3 => L_X11_curiousSet_13 k σ x2 x3) σ x2 x3
theorem LC_X11_curiousSet_13 {E : sw_E} {d : Nat} (hd : 7 ≤ d) {p : Int32 × sw_St} : ∀ (k : Nat) (σ : sw_St) (x2 : Int32) (x3 : Int32), L_X11_curiousSet_13 k σ x2 x3 = some p → sw_W E sw_gM m_X11_curiousSet d 13 [(0, .ref 0), (2, .int x2), (3, .int x3)] [] σ (sw_pI p) := by
  intro k
  induction k with
  | zero => intro σ x2 x3 h; cases h
  | succ k ih => intro σ x2 x3 h; exact SC_X11_curiousSet_13 hd ih h
noncomputable def F_X11_curiousSet (σ : sw_St) (x1 : Int32) : Option (Int32 × sw_St) :=
  (F_X11_putsAside σ ).bind fun q1 => L_X11_curiousSet_13 sw_fuel (sw_uI q1.2 0 52 x1) 0 0
theorem FC_X11_curiousSet {E : sw_E} {d : Nat} (hd : 7 ≤ d) {p : Int32 × sw_St} {σ : sw_St} {x1 : Int32} (h : F_X11_curiousSet σ x1 = some p) : sw_KI E sw_gM m_X11_curiousSet d [.ref 0, .int x1] σ (fun v s => v = p.1 ∧ s = p.2) := by
  unfold F_X11_curiousSet at h
  refine sw_K.of (by decide +kernel) rfl (Nat.le_of_ble_eq_true rfl) ?_
  show sw_W E sw_gM m_X11_curiousSet d 0 [(0, .ref 0), (1, .int x1)] [] σ (sw_pI p)
  obtain ⟨q1, hq, h⟩ := sw_bnd h
  refine B_X11_curiousSet_0  (FC_X11_putsAside (Nat.le_refl _) hq) (Nat.lt_of_lt_of_le (by decide) hd) (fun s hvs => ?_)
  subst hvs
  refine B_X11_curiousSet_6  ?_
  exact LC_X11_curiousSet_13 hd _ _ _ _ h
/-! StrayWoolModel.curious(I)I -/
noncomputable def S_X11_curious_17 (σ : sw_St) (sx0 : Int32) : Option (Int32 × sw_St) :=
  some (sx0, σ)
theorem SC_X11_curious_17 {E : sw_E} {d : Nat} (hd : 8 ≤ d) {p : Int32 × sw_St} {σ : sw_St} {sx0 : Int32} (h : S_X11_curious_17 σ sx0 = some p) : sw_W E sw_gM m_X11_curious d 17 [] [.int sx0] σ (sw_pI p) := by
  unfold S_X11_curious_17 at h
  cases h
  exact B_X11_curious_17  ⟨_, rfl, rfl, rfl⟩
noncomputable def F_X11_curious (σ : sw_St) (x1 : Int32) : Option (Int32 × sw_St) :=
  (F_X11_isSheep σ x1).bind fun q1 => if q1.1 = 0 then (S_X11_curious_17 q1.2 (-1)) else ((F_X11_curiousSet q1.2 x1).bind fun q2 => S_X11_curious_17 q2.2 q2.1)
theorem FC_X11_curious {E : sw_E} {d : Nat} (hd : 8 ≤ d) {p : Int32 × sw_St} {σ : sw_St} {x1 : Int32} (h : F_X11_curious σ x1 = some p) : sw_KI E sw_gM m_X11_curious d [.ref 0, .int x1] σ (fun v s => v = p.1 ∧ s = p.2) := by
  unfold F_X11_curious at h
  refine sw_K.of (by decide +kernel) rfl (Nat.le_of_ble_eq_true rfl) ?_
  show sw_W E sw_gM m_X11_curious d 0 [(0, .ref 0), (1, .int x1)] [] σ (sw_pI p)
  obtain ⟨q1, hq, h⟩ := sw_bnd h
  refine B_X11_curious_0  (FC_X11_isSheep (Nat.le_refl _) hq) (Nat.lt_of_lt_of_le (by decide) hd) (fun v s hvs => ?_)
  obtain ⟨hv1, hv2⟩ := hvs; subst hv1; subst hv2
  refine B_X11_curious_5  (fun hc => ?_) (fun hc => ?_)
  · rw [if_pos hc] at h
    refine B_X11_curious_16  ?_
    exact SC_X11_curious_17 hd h
  · rw [if_neg hc] at h
    obtain ⟨q2, hq, h⟩ := sw_bnd h
    refine B_X11_curious_8  (FC_X11_curiousSet (Nat.le_refl _) hq) (Nat.lt_of_lt_of_le (by decide) hd) (fun v s hvs => ?_)
    obtain ⟨hv1, hv2⟩ := hvs; subst hv1; subst hv2
    refine B_X11_curious_13  ?_
    exact SC_X11_curious_17 hd h
/-! StrayWoolModel.tells(II)I -/
noncomputable def S_X11_tells_20 (σ : sw_St) : Option (Int32 × sw_St) :=
  some ((-1), σ)
theorem SC_X11_tells_20 {E : sw_E} {d : Nat} (hd : 8 ≤ d) {p : Int32 × sw_St} {σ : sw_St} (h : S_X11_tells_20 σ  = some p) : sw_W E sw_gM m_X11_tells d 20 [] [] σ (sw_pI p) := by
  unfold S_X11_tells_20 at h
  cases h
  exact B_X11_tells_20  ⟨_, rfl, rfl, rfl⟩
noncomputable def S_X11_tells_154 (σ : sw_St) (sx0 : Int32) : Option (Int32 × sw_St) :=
  some (sx0, σ)
theorem SC_X11_tells_154 {E : sw_E} {d : Nat} (hd : 8 ≤ d) {p : Int32 × sw_St} {σ : sw_St} {sx0 : Int32} (h : S_X11_tells_154 σ sx0 = some p) : sw_W E sw_gM m_X11_tells d 154 [] [.int sx0] σ (sw_pI p) := by
  unfold S_X11_tells_154 at h
  cases h
  exact B_X11_tells_154  ⟨_, rfl, rfl, rfl⟩
noncomputable def S_X11_tells_123 (σ : sw_St) (x2 : Int32) (x4 : Int32) (x5 : Int32) (x6 : Int32) : Option (Int32 × sw_St) :=
  if x4 = (-1) then (S_X11_tells_154 σ (-1)) else (if x2 = 0 then (S_X11_tells_154 σ x4) else (if x2 = 1 then (S_X11_tells_154 σ x5) else (S_X11_tells_154 σ x6)))
theorem SC_X11_tells_123 {E : sw_E} {d : Nat} (hd : 8 ≤ d) {p : Int32 × sw_St} {σ : sw_St} {x2 : Int32} {x4 : Int32} {x5 : Int32} {x6 : Int32} (h : S_X11_tells_123 σ x2 x4 x5 x6 = some p) : sw_W E sw_gM m_X11_tells d 123 [(2, .int x2), (4, .int x4), (5, .int x5), (6, .int x6)] [] σ (sw_pI p) := by
  unfold S_X11_tells_123 at h
  refine B_X11_tells_123  (fun hc => ?_) (fun hc => ?_)
  · rw [if_neg hc] at h
    refine B_X11_tells_133  (fun hc => ?_) (fun hc => ?_)
    · rw [if_neg hc] at h
      refine B_X11_tells_142  (fun hc => ?_) (fun hc => ?_)
      · rw [if_neg hc] at h
        refine B_X11_tells_152  ?_
        exact SC_X11_tells_154 hd h
      · rw [if_pos hc] at h
        refine B_X11_tells_147  ?_
        exact SC_X11_tells_154 hd h
    · rw [if_pos hc] at h
      refine B_X11_tells_137  ?_
      exact SC_X11_tells_154 hd h
  · rw [if_pos hc] at h
    refine B_X11_tells_129  ?_
    exact SC_X11_tells_154 hd h
noncomputable def S_X11_tells_111 (c40 : sw_St → Int32 → Int32 → Int32 → Int32 → Int32 → Int32 → Option (Int32 × sw_St)) (c59 : sw_St → Int32 → Int32 → Int32 → Int32 → Int32 → Int32 → Int32 → Option (Int32 × sw_St)) (σ : sw_St) (x2 : Int32) (x3 : Int32) (x4 : Int32) (x5 : Int32) (x6 : Int32) (x7 : Int32) (x8 : Int32) : Option (Int32 × sw_St) :=
  c59 σ x2 x3 x4 x5 x6 x7 (x8 + 1)
theorem SC_X11_tells_111 {E : sw_E} {d : Nat} (hd : 8 ≤ d) {p : Int32 × sw_St} {c40 : sw_St → Int32 → Int32 → Int32 → Int32 → Int32 → Int32 → Option (Int32 × sw_St)} {c59 : sw_St → Int32 → Int32 → Int32 → Int32 → Int32 → Int32 → Int32 → Option (Int32 × sw_St)} (h40 : ∀ (σ : sw_St) (x2 : Int32) (x3 : Int32) (x4 : Int32) (x5 : Int32) (x6 : Int32) (x7 : Int32), c40 σ x2 x3 x4 x5 x6 x7 = some p → sw_W E sw_gM m_X11_tells d 40 [(0, .ref 0), (2, .int x2), (3, .int x3), (4, .int x4), (5, .int x5), (6, .int x6), (7, .int x7)] [] σ (sw_pI p)) (h59 : ∀ (σ : sw_St) (x2 : Int32) (x3 : Int32) (x4 : Int32) (x5 : Int32) (x6 : Int32) (x7 : Int32) (x8 : Int32), c59 σ x2 x3 x4 x5 x6 x7 x8 = some p → sw_W E sw_gM m_X11_tells d 59 [(0, .ref 0), (2, .int x2), (3, .int x3), (4, .int x4), (5, .int x5), (6, .int x6), (7, .int x7), (8, .int x8)] [] σ (sw_pI p)) {σ : sw_St} {x2 : Int32} {x3 : Int32} {x4 : Int32} {x5 : Int32} {x6 : Int32} {x7 : Int32} {x8 : Int32} (h : S_X11_tells_111 c40 c59 σ x2 x3 x4 x5 x6 x7 x8 = some p) : sw_W E sw_gM m_X11_tells d 111 [(0, .ref 0), (2, .int x2), (3, .int x3), (4, .int x4), (5, .int x5), (6, .int x6), (7, .int x7), (8, .int x8)] [] σ (sw_pI p) := by
  unfold S_X11_tells_111 at h
  refine B_X11_tells_111  ?_
  exact h59 _ _ _ _ _ _ _ _ h
noncomputable def S_X11_tells_99 (c40 : sw_St → Int32 → Int32 → Int32 → Int32 → Int32 → Int32 → Option (Int32 × sw_St)) (c59 : sw_St → Int32 → Int32 → Int32 → Int32 → Int32 → Int32 → Int32 → Option (Int32 × sw_St)) (σ : sw_St) (x2 : Int32) (x3 : Int32) (x7 : Int32) (x8 : Int32) (x9 : Int32) : Option (Int32 × sw_St) :=
  S_X11_tells_111 c40 c59 σ x2 x3 x7 x8 x9 x7 x8
theorem SC_X11_tells_99 {E : sw_E} {d : Nat} (hd : 8 ≤ d) {p : Int32 × sw_St} {c40 : sw_St → Int32 → Int32 → Int32 → Int32 → Int32 → Int32 → Option (Int32 × sw_St)} {c59 : sw_St → Int32 → Int32 → Int32 → Int32 → Int32 → Int32 → Int32 → Option (Int32 × sw_St)} (h40 : ∀ (σ : sw_St) (x2 : Int32) (x3 : Int32) (x4 : Int32) (x5 : Int32) (x6 : Int32) (x7 : Int32), c40 σ x2 x3 x4 x5 x6 x7 = some p → sw_W E sw_gM m_X11_tells d 40 [(0, .ref 0), (2, .int x2), (3, .int x3), (4, .int x4), (5, .int x5), (6, .int x6), (7, .int x7)] [] σ (sw_pI p)) (h59 : ∀ (σ : sw_St) (x2 : Int32) (x3 : Int32) (x4 : Int32) (x5 : Int32) (x6 : Int32) (x7 : Int32) (x8 : Int32), c59 σ x2 x3 x4 x5 x6 x7 x8 = some p → sw_W E sw_gM m_X11_tells d 59 [(0, .ref 0), (2, .int x2), (3, .int x3), (4, .int x4), (5, .int x5), (6, .int x6), (7, .int x7), (8, .int x8)] [] σ (sw_pI p)) {σ : sw_St} {x2 : Int32} {x3 : Int32} {x7 : Int32} {x8 : Int32} {x9 : Int32} (h : S_X11_tells_99 c40 c59 σ x2 x3 x7 x8 x9 = some p) : sw_W E sw_gM m_X11_tells d 99 [(0, .ref 0), (2, .int x2), (3, .int x3), (7, .int x7), (8, .int x8), (9, .int x9)] [] σ (sw_pI p) := by
  unfold S_X11_tells_99 at h
  refine B_X11_tells_99  ?_
  exact SC_X11_tells_111 hd h40 h59 h
noncomputable def S_X11_tells_59 (c40 : sw_St → Int32 → Int32 → Int32 → Int32 → Int32 → Int32 → Option (Int32 × sw_St)) (c59 : sw_St → Int32 → Int32 → Int32 → Int32 → Int32 → Int32 → Int32 → Option (Int32 × sw_St)) (σ : sw_St) (x2 : Int32) (x3 : Int32) (x4 : Int32) (x5 : Int32) (x6 : Int32) (x7 : Int32) (x8 : Int32) : Option (Int32 × sw_St) :=
  (F_X11_sheepMany σ ).bind fun q1 => if q1.1 ≤ x8 then (c40 q1.2 x2 x3 x4 x5 x6 (x7 + 1)) else ((F_X11_mostAlike q1.2 x3 ((6 * x7) + x8)).bind fun q2 => if x4 = (-1) then (S_X11_tells_99 c40 c59 q2.2 x2 x3 x7 x8 q2.1) else (if q2.1 < x6 then (S_X11_tells_99 c40 c59 q2.2 x2 x3 x7 x8 q2.1) else (S_X11_tells_111 c40 c59 q2.2 x2 x3 x4 x5 x6 x7 x8)))
theorem SC_X11_tells_59 {E : sw_E} {d : Nat} (hd : 8 ≤ d) {p : Int32 × sw_St} {c40 : sw_St → Int32 → Int32 → Int32 → Int32 → Int32 → Int32 → Option (Int32 × sw_St)} {c59 : sw_St → Int32 → Int32 → Int32 → Int32 → Int32 → Int32 → Int32 → Option (Int32 × sw_St)} (h40 : ∀ (σ : sw_St) (x2 : Int32) (x3 : Int32) (x4 : Int32) (x5 : Int32) (x6 : Int32) (x7 : Int32), c40 σ x2 x3 x4 x5 x6 x7 = some p → sw_W E sw_gM m_X11_tells d 40 [(0, .ref 0), (2, .int x2), (3, .int x3), (4, .int x4), (5, .int x5), (6, .int x6), (7, .int x7)] [] σ (sw_pI p)) (h59 : ∀ (σ : sw_St) (x2 : Int32) (x3 : Int32) (x4 : Int32) (x5 : Int32) (x6 : Int32) (x7 : Int32) (x8 : Int32), c59 σ x2 x3 x4 x5 x6 x7 x8 = some p → sw_W E sw_gM m_X11_tells d 59 [(0, .ref 0), (2, .int x2), (3, .int x3), (4, .int x4), (5, .int x5), (6, .int x6), (7, .int x7), (8, .int x8)] [] σ (sw_pI p)) {σ : sw_St} {x2 : Int32} {x3 : Int32} {x4 : Int32} {x5 : Int32} {x6 : Int32} {x7 : Int32} {x8 : Int32} (h : S_X11_tells_59 c40 c59 σ x2 x3 x4 x5 x6 x7 x8 = some p) : sw_W E sw_gM m_X11_tells d 59 [(0, .ref 0), (2, .int x2), (3, .int x3), (4, .int x4), (5, .int x5), (6, .int x6), (7, .int x7), (8, .int x8)] [] σ (sw_pI p) := by
  unfold S_X11_tells_59 at h
  obtain ⟨q1, hq, h⟩ := sw_bnd h
  refine B_X11_tells_59  (FC_X11_sheepMany (Nat.le_refl _) hq) (Nat.lt_of_lt_of_le (by decide) hd) (fun v s hvs => ?_)
  obtain ⟨hv1, hv2⟩ := hvs; subst hv1; subst hv2
  refine B_X11_tells_65  (fun hc => ?_) (fun hc => ?_)
  · rw [if_pos hc] at h
    refine B_X11_tells_117  ?_
    exact h40 _ _ _ _ _ _ _ h
  · rw [if_neg hc] at h
    obtain ⟨q2, hq, h⟩ := sw_bnd h
    refine B_X11_tells_68  (FC_X11_mostAlike (Nat.le_refl _) hq) (Nat.lt_of_lt_of_le (by decide) hd) (fun v s hvs => ?_)
    obtain ⟨hv1, hv2⟩ := hvs; subst hv1; subst hv2
    refine B_X11_tells_81  (fun hc => ?_) (fun hc => ?_)
    · rw [if_pos hc] at h
      exact SC_X11_tells_99 hd h40 h59 h
    · rw [if_neg hc] at h
      refine B_X11_tells_89  (fun hc => ?_) (fun hc => ?_)
      · rw [if_pos hc] at h
        exact SC_X11_tells_99 hd h40 h59 h
      · rw [if_neg hc] at h
        refine B_X11_tells_96  ?_
        exact SC_X11_tells_111 hd h40 h59 h
noncomputable def L_X11_tells_59 (c40 : sw_St → Int32 → Int32 → Int32 → Int32 → Int32 → Int32 → Option (Int32 × sw_St)) : Nat → sw_St → Int32 → Int32 → Int32 → Int32 → Int32 → Int32 → Int32 → Option (Int32 × sw_St)
  | 0, _, _, _, _, _, _, _, _ => none
  | k + 1, σ, x2, x3, x4, x5, x6, x7, x8 => S_X11_tells_59 c40 (fun σ x2 x3 x4 x5 x6 x7 x8 => L_X11_tells_59 c40 k σ x2 x3 x4 x5 x6 x7 x8) σ x2 x3 x4 x5 x6 x7 x8
theorem LC_X11_tells_59 {E : sw_E} {d : Nat} (hd : 8 ≤ d) {p : Int32 × sw_St} {c40 : sw_St → Int32 → Int32 → Int32 → Int32 → Int32 → Int32 → Option (Int32 × sw_St)} (h40 : ∀ (σ : sw_St) (x2 : Int32) (x3 : Int32) (x4 : Int32) (x5 : Int32) (x6 : Int32) (x7 : Int32), c40 σ x2 x3 x4 x5 x6 x7 = some p → sw_W E sw_gM m_X11_tells d 40 [(0, .ref 0), (2, .int x2), (3, .int x3), (4, .int x4), (5, .int x5), (6, .int x6), (7, .int x7)] [] σ (sw_pI p)) : ∀ (k : Nat) (σ : sw_St) (x2 : Int32) (x3 : Int32) (x4 : Int32) (x5 : Int32) (x6 : Int32) (x7 : Int32) (x8 : Int32), L_X11_tells_59 c40 k σ x2 x3 x4 x5 x6 x7 x8 = some p → sw_W E sw_gM m_X11_tells d 59 [(0, .ref 0), (2, .int x2), (3, .int x3), (4, .int x4), (5, .int x5), (6, .int x6), (7, .int x7), (8, .int x8)] [] σ (sw_pI p) := by
  intro k
  induction k with
  | zero => intro σ x2 x3 x4 x5 x6 x7 x8 h; cases h
  | succ k ih => intro σ x2 x3 x4 x5 x6 x7 x8 h; exact SC_X11_tells_59 hd h40 ih h
noncomputable def S_X11_tells_40 (c40 : sw_St → Int32 → Int32 → Int32 → Int32 → Int32 → Int32 → Option (Int32 × sw_St)) (σ : sw_St) (x2 : Int32) (x3 : Int32) (x4 : Int32) (x5 : Int32) (x6 : Int32) (x7 : Int32) : Option (Int32 × sw_St) :=
  if x3 = 0 then (S_X11_tells_123 σ x2 x4 x5 x6) else ((F_X11_isAhead σ x7 1 30).bind fun q1 => if q1.1 = 0 then (S_X11_tells_123 q1.2 x2 x4 x5 x6) else (L_X11_tells_59 c40 sw_fuel q1.2 x2 x3 x4 x5 x6 x7 0))
theorem SC_X11_tells_40 {E : sw_E} {d : Nat} (hd : 8 ≤ d) {p : Int32 × sw_St} {c40 : sw_St → Int32 → Int32 → Int32 → Int32 → Int32 → Int32 → Option (Int32 × sw_St)} (h40 : ∀ (σ : sw_St) (x2 : Int32) (x3 : Int32) (x4 : Int32) (x5 : Int32) (x6 : Int32) (x7 : Int32), c40 σ x2 x3 x4 x5 x6 x7 = some p → sw_W E sw_gM m_X11_tells d 40 [(0, .ref 0), (2, .int x2), (3, .int x3), (4, .int x4), (5, .int x5), (6, .int x6), (7, .int x7)] [] σ (sw_pI p)) {σ : sw_St} {x2 : Int32} {x3 : Int32} {x4 : Int32} {x5 : Int32} {x6 : Int32} {x7 : Int32} (h : S_X11_tells_40 c40 σ x2 x3 x4 x5 x6 x7 = some p) : sw_W E sw_gM m_X11_tells d 40 [(0, .ref 0), (2, .int x2), (3, .int x3), (4, .int x4), (5, .int x5), (6, .int x6), (7, .int x7)] [] σ (sw_pI p) := by
  unfold S_X11_tells_40 at h
  refine B_X11_tells_40  (fun hc => ?_) (fun hc => ?_)
  · rw [if_pos hc] at h
    exact SC_X11_tells_123 hd h
  · rw [if_neg hc] at h
    obtain ⟨q1, hq, h⟩ := sw_bnd h
    refine B_X11_tells_44  (FC_X11_isAhead (Nat.le_refl _) hq) (Nat.lt_of_lt_of_le (by decide) hd) (fun v s hvs => ?_)
    obtain ⟨hv1, hv2⟩ := hvs; subst hv1; subst hv2
    refine B_X11_tells_53  (fun hc => ?_) (fun hc => ?_)
    · rw [if_pos hc] at h
      exact SC_X11_tells_123 hd h
    · rw [if_neg hc] at h
      refine B_X11_tells_56  ?_
      exact LC_X11_tells_59 hd h40 _ _ _ _ _ _ _ _ _ h
noncomputable def L_X11_tells_40 : Nat → sw_St → Int32 → Int32 → Int32 → Int32 → Int32 → Int32 → Option (Int32 × sw_St)
  | 0, _, _, _, _, _, _, _ => none
  | k + 1, σ, x2, x3, x4, x5, x6, x7 => S_X11_tells_40 (fun σ x2 x3 x4 x5 x6 x7 => L_X11_tells_40 k σ x2 x3 x4 x5 x6 x7) σ x2 x3 x4 x5 x6 x7
theorem LC_X11_tells_40 {E : sw_E} {d : Nat} (hd : 8 ≤ d) {p : Int32 × sw_St} : ∀ (k : Nat) (σ : sw_St) (x2 : Int32) (x3 : Int32) (x4 : Int32) (x5 : Int32) (x6 : Int32) (x7 : Int32), L_X11_tells_40 k σ x2 x3 x4 x5 x6 x7 = some p → sw_W E sw_gM m_X11_tells d 40 [(0, .ref 0), (2, .int x2), (3, .int x3), (4, .int x4), (5, .int x5), (6, .int x6), (7, .int x7)] [] σ (sw_pI p) := by
  intro k
  induction k with
  | zero => intro σ x2 x3 x4 x5 x6 x7 h; cases h
  | succ k ih => intro σ x2 x3 x4 x5 x6 x7 h; exact SC_X11_tells_40 hd ih h
noncomputable def F_X11_tells (σ : sw_St) (x1 : Int32) (x2 : Int32) : Option (Int32 × sw_St) :=
  (F_X11_isSheep σ x1).bind fun q1 => if q1.1 = 0 then (S_X11_tells_20 q1.2 ) else ((F_X11_isIn q1.2 x2.toInt64 0 2).bind fun q2 => if q2.1 = 0 then (S_X11_tells_20 q2.2 ) else ((F_X11_curiousSet q2.2 x1).bind fun q3 => L_X11_tells_40 sw_fuel q3.2 x2 q3.1 (-1) (-1) 0 1))
theorem FC_X11_tells {E : sw_E} {d : Nat} (hd : 8 ≤ d) {p : Int32 × sw_St} {σ : sw_St} {x1 : Int32} {x2 : Int32} (h : F_X11_tells σ x1 x2 = some p) : sw_KI E sw_gM m_X11_tells d [.ref 0, .int x1, .int x2] σ (fun v s => v = p.1 ∧ s = p.2) := by
  unfold F_X11_tells at h
  refine sw_K.of (by decide +kernel) rfl (Nat.le_of_ble_eq_true rfl) ?_
  show sw_W E sw_gM m_X11_tells d 0 [(0, .ref 0), (1, .int x1), (2, .int x2)] [] σ (sw_pI p)
  obtain ⟨q1, hq, h⟩ := sw_bnd h
  refine B_X11_tells_0  (FC_X11_isSheep (Nat.le_refl _) hq) (Nat.lt_of_lt_of_le (by decide) hd) (fun v s hvs => ?_)
  obtain ⟨hv1, hv2⟩ := hvs; subst hv1; subst hv2
  refine B_X11_tells_5  (fun hc => ?_) (fun hc => ?_)
  · rw [if_pos hc] at h
    exact SC_X11_tells_20 hd h
  · rw [if_neg hc] at h
    obtain ⟨q2, hq, h⟩ := sw_bnd h
    refine B_X11_tells_8  (FC_X11_isIn (Nat.le_refl _) hq) (Nat.lt_of_lt_of_le (by decide) hd) (fun v s hvs => ?_)
    obtain ⟨hv1, hv2⟩ := hvs; subst hv1; subst hv2
    refine B_X11_tells_17  (fun hc => ?_) (fun hc => ?_)
    · rw [if_neg hc] at h
      obtain ⟨q3, hq, h⟩ := sw_bnd h
      refine B_X11_tells_22  (FC_X11_curiousSet (Nat.le_refl _) hq) (Nat.lt_of_lt_of_le (by decide) hd) (fun v s hvs => ?_)
      obtain ⟨hv1, hv2⟩ := hvs; subst hv1; subst hv2
      refine B_X11_tells_27  ?_
      exact LC_X11_tells_40 hd _ _ _ _ _ _ _ _ h
    · rw [if_pos hc] at h
      exact SC_X11_tells_20 hd h
/-! StrayWoolModel.shear(I)I -/
noncomputable def S_X11_shear_16 (σ : sw_St) : Option (Int32 × sw_St) :=
  (F_X11_refuses σ 2).bind fun q1 => some (q1.1, q1.2)
theorem SC_X11_shear_16 {E : sw_E} {d : Nat} (hd : 4 ≤ d) {p : Int32 × sw_St} {σ : sw_St} (h : S_X11_shear_16 σ  = some p) : sw_W E sw_gM m_X11_shear d 16 [(0, .ref 0)] [] σ (sw_pI p) := by
  unfold S_X11_shear_16 at h
  obtain ⟨q1, hq, h⟩ := sw_bnd h
  refine B_X11_shear_16  (FC_X11_refuses (Nat.le_refl _) hq) (Nat.lt_of_lt_of_le (by decide) hd) (fun v s hvs => ?_)
  obtain ⟨hv1, hv2⟩ := hvs; subst hv1; subst hv2
  cases h
  exact B_X11_shear_21  ⟨_, rfl, rfl, rfl⟩
noncomputable def S_X11_shear_54 (c54 : sw_St → Int32 → Int32 → Int32 → Option (Int32 × sw_St)) (σ : sw_St) (x1 : Int32) (x2 : Int32) (x3 : Int32) : Option (Int32 × sw_St) :=
  if 4 ≤ x3 then (some (x2, σ)) else (if sw_inb ((12 + (12 * x1)) + x3) 245 = true then (c54 (sw_uI σ 37 (((12 + (12 * x1)) + x3).toNatClampNeg) 0) x1 x2 (x3 + 1)) else none)
theorem SC_X11_shear_54 {E : sw_E} {d : Nat} (hd : 4 ≤ d) {p : Int32 × sw_St} {c54 : sw_St → Int32 → Int32 → Int32 → Option (Int32 × sw_St)} (h54 : ∀ (σ : sw_St) (x1 : Int32) (x2 : Int32) (x3 : Int32), c54 σ x1 x2 x3 = some p → sw_W E sw_gM m_X11_shear d 54 [(0, .ref 0), (1, .int x1), (2, .int x2), (3, .int x3)] [] σ (sw_pI p)) {σ : sw_St} {x1 : Int32} {x2 : Int32} {x3 : Int32} (h : S_X11_shear_54 c54 σ x1 x2 x3 = some p) : sw_W E sw_gM m_X11_shear d 54 [(0, .ref 0), (1, .int x1), (2, .int x2), (3, .int x3)] [] σ (sw_pI p) := by
  unfold S_X11_shear_54 at h
  refine B_X11_shear_54  (fun hc => ?_) (fun hc => ?_)
  · rw [if_pos hc] at h
    cases h
    exact B_X11_shear_80  ⟨_, rfl, rfl, rfl⟩
  · rw [if_neg hc] at h
    obtain ⟨o1, h⟩ := sw_ifs h
    refine B_X11_shear_59 (sw_inb_sp o1) ?_
    exact h54 _ _ _ _ h
noncomputable def L_X11_shear_54 : Nat → sw_St → Int32 → Int32 → Int32 → Option (Int32 × sw_St)
  | 0, _, _, _, _ => none
  | k + 1, σ, x1, x2, x3 => S_X11_shear_54 (fun σ x1 x2 x3 => L_X11_shear_54 k σ x1 x2 x3) σ x1 x2 x3
theorem LC_X11_shear_54 {E : sw_E} {d : Nat} (hd : 4 ≤ d) {p : Int32 × sw_St} : ∀ (k : Nat) (σ : sw_St) (x1 : Int32) (x2 : Int32) (x3 : Int32), L_X11_shear_54 k σ x1 x2 x3 = some p → sw_W E sw_gM m_X11_shear d 54 [(0, .ref 0), (1, .int x1), (2, .int x2), (3, .int x3)] [] σ (sw_pI p) := by
  intro k
  induction k with
  | zero => intro σ x1 x2 x3 h; cases h
  | succ k ih => intro σ x1 x2 x3 h; exact SC_X11_shear_54 hd ih h
noncomputable def F_X11_shear (σ : sw_St) (x1 : Int32) : Option (Int32 × sw_St) :=
  (F_X11_isSheep σ x1).bind fun q1 => if q1.1 = 0 then (S_X11_shear_16 q1.2 ) else ((F_X11_woolOf q1.2 x1).bind fun q2 => if q2.1 = 0 then (S_X11_shear_16 q2.2 ) else ((F_X11_keeps q2.2 ).bind fun q3 => (F_X11_worthOf q3.2 x1).bind fun q4 => (F_X11_least q4.2 99999 ((q4.2.1 37 1) + q4.1)).bind fun q5 => if sw_inb 1 245 = true then (L_X11_shear_54 sw_fuel (sw_uI q5.2 37 (1 : Int32).toNatClampNeg q5.1) x1 q4.1 1) else none))
theorem FC_X11_shear {E : sw_E} {d : Nat} (hd : 4 ≤ d) {p : Int32 × sw_St} {σ : sw_St} {x1 : Int32} (h : F_X11_shear σ x1 = some p) : sw_KI E sw_gM m_X11_shear d [.ref 0, .int x1] σ (fun v s => v = p.1 ∧ s = p.2) := by
  unfold F_X11_shear at h
  refine sw_K.of (by decide +kernel) rfl (Nat.le_of_ble_eq_true rfl) ?_
  show sw_W E sw_gM m_X11_shear d 0 [(0, .ref 0), (1, .int x1)] [] σ (sw_pI p)
  obtain ⟨q1, hq, h⟩ := sw_bnd h
  refine B_X11_shear_0  (FC_X11_isSheep (Nat.le_refl _) hq) (Nat.lt_of_lt_of_le (by decide) hd) (fun v s hvs => ?_)
  obtain ⟨hv1, hv2⟩ := hvs; subst hv1; subst hv2
  refine B_X11_shear_5  (fun hc => ?_) (fun hc => ?_)
  · rw [if_pos hc] at h
    exact SC_X11_shear_16 hd h
  · rw [if_neg hc] at h
    obtain ⟨q2, hq, h⟩ := sw_bnd h
    refine B_X11_shear_8  (FC_X11_woolOf (Nat.le_refl _) hq) (Nat.lt_of_lt_of_le (by decide) hd) (fun v s hvs => ?_)
    obtain ⟨hv1, hv2⟩ := hvs; subst hv1; subst hv2
    refine B_X11_shear_13  (fun hc => ?_) (fun hc => ?_)
    · rw [if_neg hc] at h
      obtain ⟨q3, hq, h⟩ := sw_bnd h
      refine B_X11_shear_22  (FC_X11_keeps (Nat.le_refl _) hq) (Nat.lt_of_lt_of_le (by decide) hd) (fun s hvs => ?_)
      subst hvs
      obtain ⟨q4, hq, h⟩ := sw_bnd h
      refine B_X11_shear_26  (FC_X11_worthOf (Nat.le_refl _) hq) (Nat.lt_of_lt_of_le (by decide) hd) (fun v s hvs => ?_)
      obtain ⟨hv1, hv2⟩ := hvs; subst hv1; subst hv2
      obtain ⟨q5, hq, h⟩ := sw_bnd h
      refine B_X11_shear_31  (FC_X11_least (Nat.le_refl _) hq) (Nat.lt_of_lt_of_le (by decide) hd) (fun v s hvs => ?_)
      obtain ⟨hv1, hv2⟩ := hvs; subst hv1; subst hv2
      obtain ⟨o6, h⟩ := sw_ifs h
      refine B_X11_shear_51 (sw_inb_sp o6) ?_
      exact LC_X11_shear_54 hd _ _ _ _ _ h
    · rw [if_pos hc] at h
      exact SC_X11_shear_16 hd h
/-! StrayWoolModel.days(I)I -/
noncomputable def F_X11_days (σ : sw_St) (x1 : Int32) : Option (Int32 × sw_St) :=
  (F_X11_isAhead σ x1 1 100).bind fun q1 => if q1.1 = 0 then ((F_X11_refuses q1.2 3).bind fun q4 => some (q4.1, q4.2)) else ((F_X11_keeps q1.2 ).bind fun q2 => (F_X11_daysGo (sw_uI q2.2 0 59 0) x1).bind fun q3 => some (q3.2.1 0 59, q3.2))
theorem FC_X11_days {E : sw_E} {d : Nat} (hd : 8 ≤ d) {p : Int32 × sw_St} {σ : sw_St} {x1 : Int32} (h : F_X11_days σ x1 = some p) : sw_KI E sw_gM m_X11_days d [.ref 0, .int x1] σ (fun v s => v = p.1 ∧ s = p.2) := by
  unfold F_X11_days at h
  refine sw_K.of (by decide +kernel) rfl (Nat.le_of_ble_eq_true rfl) ?_
  show sw_W E sw_gM m_X11_days d 0 [(0, .ref 0), (1, .int x1)] [] σ (sw_pI p)
  obtain ⟨q1, hq, h⟩ := sw_bnd h
  refine B_X11_days_0  (FC_X11_isAhead (Nat.le_refl _) hq) (Nat.lt_of_lt_of_le (by decide) hd) (fun v s hvs => ?_)
  obtain ⟨hv1, hv2⟩ := hvs; subst hv1; subst hv2
  refine B_X11_days_8  (fun hc => ?_) (fun hc => ?_)
  · rw [if_neg hc] at h
    obtain ⟨q2, hq, h⟩ := sw_bnd h
    refine B_X11_days_17  (FC_X11_keeps (Nat.le_refl _) hq) (Nat.lt_of_lt_of_le (by decide) hd) (fun s hvs => ?_)
    subst hvs
    obtain ⟨q3, hq, h⟩ := sw_bnd h
    refine B_X11_days_21  (FC_X11_daysGo (Nat.le_refl _) hq) (Nat.lt_of_lt_of_le (by decide) hd) (fun s hvs => ?_)
    subst hvs
    cases h
    exact B_X11_days_31  ⟨_, rfl, rfl, rfl⟩
  · rw [if_pos hc] at h
    obtain ⟨q4, hq, h⟩ := sw_bnd h
    refine B_X11_days_11  (FC_X11_refuses (Nat.le_refl _) hq) (Nat.lt_of_lt_of_le (by decide) hd) (fun v s hvs => ?_)
    obtain ⟨hv1, hv2⟩ := hvs; subst hv1; subst hv2
    cases h
    exact B_X11_days_16  ⟨_, rfl, rfl, rfl⟩
/-! StrayWoolModel.chance(I)I -/
noncomputable def S_X11_chance_75 (c25 : sw_St → Int32 → Int32 → Int32 → Option (Int32 × sw_St)) (σ : sw_St) (x1 : Int32) (x2 : Int32) (x3 : Int32) : Option (Int32 × sw_St) :=
  (F_X11_dayGoes σ ).bind fun q1 => c25 q1.2 x1 x2 (x3 + 1)
theorem SC_X11_chance_75 {E : sw_E} {d : Nat} (hd : 7 ≤ d) {p : Int32 × sw_St} {c25 : sw_St → Int32 → Int32 → Int32 → Option (Int32 × sw_St)} (h25 : ∀ (σ : sw_St) (x1 : Int32) (x2 : Int32) (x3 : Int32), c25 σ x1 x2 x3 = some p → sw_W E sw_gM m_X11_chance d 25 [(0, .ref 0), (1, .int x1), (2, .int x2), (3, .int x3)] [] σ (sw_pI p)) {σ : sw_St} {x1 : Int32} {x2 : Int32} {x3 : Int32} (h : S_X11_chance_75 c25 σ x1 x2 x3 = some p) : sw_W E sw_gM m_X11_chance d 75 [(0, .ref 0), (1, .int x1), (2, .int x2), (3, .int x3)] [] σ (sw_pI p) := by
  unfold S_X11_chance_75 at h
  obtain ⟨q1, hq, h⟩ := sw_bnd h
  refine B_X11_chance_75  (FC_X11_dayGoes (Nat.le_refl _) hq) (Nat.lt_of_lt_of_le (by decide) hd) (fun s hvs => ?_)
  subst hvs
  refine B_X11_chance_79  ?_
  exact h25 _ _ _ _ h
noncomputable def S_X11_chance_25 (c25 : sw_St → Int32 → Int32 → Int32 → Option (Int32 × sw_St)) (σ : sw_St) (x1 : Int32) (x2 : Int32) (x3 : Int32) : Option (Int32 × sw_St) :=
  if x1 ≤ x3 then (some (x2, σ)) else ((F_X11_drawOf σ 100).bind fun q1 => if (q1.2.1 28 7) ≤ q1.1 then (S_X11_chance_75 c25 q1.2 x1 x2 x3) else ((F_X11_gapMany q1.2 ).bind fun q2 => if q2.1 ≤ 0 then (S_X11_chance_75 c25 q2.2 x1 x2 x3) else ((F_X11_gapMany q2.2 ).bind fun q3 => (F_X11_drawOf q3.2 q3.1).bind fun q4 => if sw_inb (2 + q4.1) 245 = true then (if sw_inb (2 + q4.1) 245 = true then (S_X11_chance_75 c25 (sw_uI q4.2 37 ((2 + q4.1).toNatClampNeg) ((q4.2.1 37 ((2 + q4.1).toNatClampNeg)) ^^^ 1)) x1 (x2 + 1) x3) else none) else none)))
theorem SC_X11_chance_25 {E : sw_E} {d : Nat} (hd : 7 ≤ d) {p : Int32 × sw_St} {c25 : sw_St → Int32 → Int32 → Int32 → Option (Int32 × sw_St)} (h25 : ∀ (σ : sw_St) (x1 : Int32) (x2 : Int32) (x3 : Int32), c25 σ x1 x2 x3 = some p → sw_W E sw_gM m_X11_chance d 25 [(0, .ref 0), (1, .int x1), (2, .int x2), (3, .int x3)] [] σ (sw_pI p)) {σ : sw_St} {x1 : Int32} {x2 : Int32} {x3 : Int32} (h : S_X11_chance_25 c25 σ x1 x2 x3 = some p) : sw_W E sw_gM m_X11_chance d 25 [(0, .ref 0), (1, .int x1), (2, .int x2), (3, .int x3)] [] σ (sw_pI p) := by
  unfold S_X11_chance_25 at h
  refine B_X11_chance_25  (fun hc => ?_) (fun hc => ?_)
  · rw [if_pos hc] at h
    cases h
    exact B_X11_chance_85  ⟨_, rfl, rfl, rfl⟩
  · rw [if_neg hc] at h
    obtain ⟨q1, hq, h⟩ := sw_bnd h
    refine B_X11_chance_30  (FC_X11_drawOf (Nat.le_refl _) hq) (Nat.lt_of_lt_of_le (by decide) hd) (fun v s hvs => ?_)
    obtain ⟨hv1, hv2⟩ := hvs; subst hv1; subst hv2
    refine B_X11_chance_36  (fun hc => ?_) (fun hc => ?_)
    · rw [if_pos hc] at h
      exact SC_X11_chance_75 hd h25 h
    · rw [if_neg hc] at h
      obtain ⟨q2, hq, h⟩ := sw_bnd h
      refine B_X11_chance_46  (FC_X11_gapMany (Nat.le_refl _) hq) (Nat.lt_of_lt_of_le (by decide) hd) (fun v s hvs => ?_)
      obtain ⟨hv1, hv2⟩ := hvs; subst hv1; subst hv2
      refine B_X11_chance_50  (fun hc => ?_) (fun hc => ?_)
      · rw [if_pos hc] at h
        exact SC_X11_chance_75 hd h25 h
      · rw [if_neg hc] at h
        obtain ⟨q3, hq, h⟩ := sw_bnd h
        refine B_X11_chance_53  (FC_X11_gapMany (Nat.le_refl _) hq) (Nat.lt_of_lt_of_le (by decide) hd) (fun v s hvs => ?_)
        obtain ⟨hv1, hv2⟩ := hvs; subst hv1; subst hv2
        obtain ⟨q4, hq, h⟩ := sw_bnd h
        refine B_X11_chance_63  (FC_X11_drawOf (Nat.le_refl _) hq) (Nat.lt_of_lt_of_le (by decide) hd) (fun v s hvs => ?_)
        obtain ⟨hv1, hv2⟩ := hvs; subst hv1; subst hv2
        obtain ⟨o5, h⟩ := sw_ifs h
        obtain ⟨o6, h⟩ := sw_ifs h
        refine B_X11_chance_66 (sw_inb_sp o5) (sw_inb_sp o6) ?_
        exact SC_X11_chance_75 hd h25 h
noncomputable def L_X11_chance_25 : Nat → sw_St → Int32 → Int32 → Int32 → Option (Int32 × sw_St)
  | 0, _, _, _, _ => none
  | k + 1, σ, x1, x2, x3 => S_X11_chance_25 (fun σ x1 x2 x3 => L_X11_chance_25 k σ x1 x2 x3) σ x1 x2 x3
theorem LC_X11_chance_25 {E : sw_E} {d : Nat} (hd : 7 ≤ d) {p : Int32 × sw_St} : ∀ (k : Nat) (σ : sw_St) (x1 : Int32) (x2 : Int32) (x3 : Int32), L_X11_chance_25 k σ x1 x2 x3 = some p → sw_W E sw_gM m_X11_chance d 25 [(0, .ref 0), (1, .int x1), (2, .int x2), (3, .int x3)] [] σ (sw_pI p) := by
  intro k
  induction k with
  | zero => intro σ x1 x2 x3 h; cases h
  | succ k ih => intro σ x1 x2 x3 h; exact SC_X11_chance_25 hd ih h
noncomputable def F_X11_chance (σ : sw_St) (x1 : Int32) : Option (Int32 × sw_St) :=
  (F_X11_isAhead σ x1 1 100).bind fun q1 => if q1.1 = 0 then ((F_X11_refuses q1.2 3).bind fun q3 => some (q3.1, q3.2)) else ((F_X11_keeps q1.2 ).bind fun q2 => L_X11_chance_25 sw_fuel q2.2 x1 0 0)
theorem FC_X11_chance {E : sw_E} {d : Nat} (hd : 7 ≤ d) {p : Int32 × sw_St} {σ : sw_St} {x1 : Int32} (h : F_X11_chance σ x1 = some p) : sw_KI E sw_gM m_X11_chance d [.ref 0, .int x1] σ (fun v s => v = p.1 ∧ s = p.2) := by
  unfold F_X11_chance at h
  refine sw_K.of (by decide +kernel) rfl (Nat.le_of_ble_eq_true rfl) ?_
  show sw_W E sw_gM m_X11_chance d 0 [(0, .ref 0), (1, .int x1)] [] σ (sw_pI p)
  obtain ⟨q1, hq, h⟩ := sw_bnd h
  refine B_X11_chance_0  (FC_X11_isAhead (Nat.le_refl _) hq) (Nat.lt_of_lt_of_le (by decide) hd) (fun v s hvs => ?_)
  obtain ⟨hv1, hv2⟩ := hvs; subst hv1; subst hv2
  refine B_X11_chance_8  (fun hc => ?_) (fun hc => ?_)
  · rw [if_neg hc] at h
    obtain ⟨q2, hq, h⟩ := sw_bnd h
    refine B_X11_chance_17  (FC_X11_keeps (Nat.le_refl _) hq) (Nat.lt_of_lt_of_le (by decide) hd) (fun s hvs => ?_)
    subst hvs
    refine B_X11_chance_21  ?_
    exact LC_X11_chance_25 hd _ _ _ _ _ h
  · rw [if_pos hc] at h
    obtain ⟨q3, hq, h⟩ := sw_bnd h
    refine B_X11_chance_11  (FC_X11_refuses (Nat.le_refl _) hq) (Nat.lt_of_lt_of_le (by decide) hd) (fun v s hvs => ?_)
    obtain ⟨hv1, hv2⟩ := hvs; subst hv1; subst hv2
    cases h
    exact B_X11_chance_16  ⟨_, rfl, rfl, rfl⟩
/-! StrayWoolModel.qTest()V -/
noncomputable def S_X11_qTest_131 (σ : sw_St) : Option (Unit × sw_St) :=
  some ((), σ)
theorem SC_X11_qTest_131 {E : sw_E} {d : Nat} (hd : 8 ≤ d) {p : Unit × sw_St} {σ : sw_St} (h : S_X11_qTest_131 σ  = some p) : sw_W E sw_gM m_X11_qTest d 131 [] [] σ (sw_pV p) := by
  unfold S_X11_qTest_131 at h
  cases h
  exact B_X11_qTest_131  ⟨rfl, rfl⟩
noncomputable def S_X11_qTest_110 (c110 : sw_St → Option (Unit × sw_St)) (σ : sw_St) : Option (Unit × sw_St) :=
  if (σ.1 0 5) = 0 then (if (σ.1 0 97) ≤ 0 then (S_X11_qTest_131 σ ) else ((F_X11_qDrops σ ).bind fun q1 => c110 q1.2 )) else (S_X11_qTest_131 σ )
theorem SC_X11_qTest_110 {E : sw_E} {d : Nat} (hd : 8 ≤ d) {p : Unit × sw_St} {c110 : sw_St → Option (Unit × sw_St)} (h110 : ∀ (σ : sw_St), c110 σ  = some p → sw_W E sw_gM m_X11_qTest d 110 [(0, .ref 0)] [] σ (sw_pV p)) {σ : sw_St} (h : S_X11_qTest_110 c110 σ  = some p) : sw_W E sw_gM m_X11_qTest d 110 [(0, .ref 0)] [] σ (sw_pV p) := by
  unfold S_X11_qTest_110 at h
  refine B_X11_qTest_110  (fun hc => ?_) (fun hc => ?_)
  · rw [if_neg hc] at h
    exact SC_X11_qTest_131 hd h
  · rw [if_pos hc] at h
    refine B_X11_qTest_117  (fun hc => ?_) (fun hc => ?_)
    · rw [if_pos hc] at h
      exact SC_X11_qTest_131 hd h
    · rw [if_neg hc] at h
      obtain ⟨q1, hq, h⟩ := sw_bnd h
      refine B_X11_qTest_124  (FC_X11_qDrops (Nat.le_refl _) hq) (Nat.lt_of_lt_of_le (by decide) hd) (fun s hvs => ?_)
      subst hvs
      refine B_X11_qTest_128  ?_
      exact h110 _  h
noncomputable def L_X11_qTest_110 : Nat → sw_St → Option (Unit × sw_St)
  | 0, _ => none
  | k + 1, σ => S_X11_qTest_110 (fun σ => L_X11_qTest_110 k σ ) σ 
theorem LC_X11_qTest_110 {E : sw_E} {d : Nat} (hd : 8 ≤ d) {p : Unit × sw_St} : ∀ (k : Nat) (σ : sw_St), L_X11_qTest_110 k σ  = some p → sw_W E sw_gM m_X11_qTest d 110 [(0, .ref 0)] [] σ (sw_pV p) := by
  intro k
  induction k with
  | zero => intro σ h; cases h
  | succ k ih => intro σ h; exact SC_X11_qTest_110 hd ih h
noncomputable def S_X11_qTest_106 (c2 : sw_St → Int32 → Option (Unit × sw_St)) (σ : sw_St) (sx0 : Int32) : Option (Unit × sw_St) :=
  c2 σ sx0
theorem SC_X11_qTest_106 {E : sw_E} {d : Nat} (hd : 8 ≤ d) {p : Unit × sw_St} {c2 : sw_St → Int32 → Option (Unit × sw_St)} (h2 : ∀ (σ : sw_St) (x1 : Int32), c2 σ x1 = some p → sw_W E sw_gM m_X11_qTest d 2 [(0, .ref 0), (1, .int x1)] [] σ (sw_pV p)) {σ : sw_St} {sx0 : Int32} (h : S_X11_qTest_106 c2 σ sx0 = some p) : sw_W E sw_gM m_X11_qTest d 106 [(0, .ref 0)] [.int sx0] σ (sw_pV p) := by
  unfold S_X11_qTest_106 at h
  refine B_X11_qTest_106  ?_
  exact h2 _ _ h
noncomputable def S_X11_qTest_105 (c2 : sw_St → Int32 → Option (Unit × sw_St)) (σ : sw_St) : Option (Unit × sw_St) :=
  S_X11_qTest_106 c2 σ 0
theorem SC_X11_qTest_105 {E : sw_E} {d : Nat} (hd : 8 ≤ d) {p : Unit × sw_St} {c2 : sw_St → Int32 → Option (Unit × sw_St)} (h2 : ∀ (σ : sw_St) (x1 : Int32), c2 σ x1 = some p → sw_W E sw_gM m_X11_qTest d 2 [(0, .ref 0), (1, .int x1)] [] σ (sw_pV p)) {σ : sw_St} (h : S_X11_qTest_105 c2 σ  = some p) : sw_W E sw_gM m_X11_qTest d 105 [(0, .ref 0)] [] σ (sw_pV p) := by
  unfold S_X11_qTest_105 at h
  refine B_X11_qTest_105  ?_
  exact SC_X11_qTest_106 hd h2 h
noncomputable def S_X11_qTest_2 (c2 : sw_St → Int32 → Option (Unit × sw_St)) (σ : sw_St) (x1 : Int32) : Option (Unit × sw_St) :=
  if x1 = 0 then (L_X11_qTest_110 sw_fuel σ ) else (if (σ.1 0 5) = 0 then ((F_X11_look σ ).bind fun q1 => if q1.1 = 91 then ((F_X11_qOpens q1.2 25 (q1.2.1 0 2)).bind fun q8 => c2 (sw_uI q8.2 0 2 ((q8.2.1 0 2) + 1)) x1) else ((F_X11_isHere q1.2 53).bind fun q2 => if q2.1 = 0 then ((F_X11_qFact q2.2 ).bind fun q3 => (F_X11_qDropsNots q3.2 ).bind fun q4 => if (q4.2.1 0 5) = 0 then ((F_X11_qGoesOnTest q4.2 ).bind fun q5 => if q5.1 = 0 then (S_X11_qTest_105 c2 q5.2 ) else (S_X11_qTest_106 c2 q5.2 1)) else (S_X11_qTest_105 c2 q4.2 )) else ((F_X11_qOpens q2.2 12 (q2.2.1 0 2)).bind fun q6 => (F_X11_asks q6.2 53).bind fun q7 => c2 q7.2 x1))) else (L_X11_qTest_110 sw_fuel σ ))
theorem SC_X11_qTest_2 {E : sw_E} {d : Nat} (hd : 8 ≤ d) {p : Unit × sw_St} {c2 : sw_St → Int32 → Option (Unit × sw_St)} (h2 : ∀ (σ : sw_St) (x1 : Int32), c2 σ x1 = some p → sw_W E sw_gM m_X11_qTest d 2 [(0, .ref 0), (1, .int x1)] [] σ (sw_pV p)) {σ : sw_St} {x1 : Int32} (h : S_X11_qTest_2 c2 σ x1 = some p) : sw_W E sw_gM m_X11_qTest d 2 [(0, .ref 0), (1, .int x1)] [] σ (sw_pV p) := by
  unfold S_X11_qTest_2 at h
  refine B_X11_qTest_2  (fun hc => ?_) (fun hc => ?_)
  · rw [if_pos hc] at h
    exact LC_X11_qTest_110 hd _ _  h
  · rw [if_neg hc] at h
    refine B_X11_qTest_6  (fun hc => ?_) (fun hc => ?_)
    · rw [if_neg hc] at h
      exact LC_X11_qTest_110 hd _ _  h
    · rw [if_pos hc] at h
      obtain ⟨q1, hq, h⟩ := sw_bnd h
      refine B_X11_qTest_13  (FC_X11_look (Nat.le_refl _) hq) (Nat.lt_of_lt_of_le (by decide) hd) (fun v s hvs => ?_)
      obtain ⟨hv1, hv2⟩ := hvs; subst hv1; subst hv2
      refine B_X11_qTest_17  (fun hc => ?_) (fun hc => ?_)
      · rw [if_neg hc] at h
        obtain ⟨q2, hq, h⟩ := sw_bnd h
        refine B_X11_qTest_47  (FC_X11_isHere (Nat.le_refl _) hq) (Nat.lt_of_lt_of_le (by decide) hd) (fun v s hvs => ?_)
        obtain ⟨hv1, hv2⟩ := hvs; subst hv1; subst hv2
        refine B_X11_qTest_55  (fun hc => ?_) (fun hc => ?_)
        · rw [if_pos hc] at h
          obtain ⟨q3, hq, h⟩ := sw_bnd h
          refine B_X11_qTest_79  (FC_X11_qFact (Nat.le_refl _) hq) (Nat.lt_of_lt_of_le (by decide) hd) (fun s hvs => ?_)
          subst hvs
          obtain ⟨q4, hq, h⟩ := sw_bnd h
          refine B_X11_qTest_83  (FC_X11_qDropsNots (Nat.le_refl _) hq) (Nat.lt_of_lt_of_le (by decide) hd) (fun s hvs => ?_)
          subst hvs
          refine B_X11_qTest_87  (fun hc => ?_) (fun hc => ?_)
          · rw [if_neg hc] at h
            exact SC_X11_qTest_105 hd h2 h
          · rw [if_pos hc] at h
            obtain ⟨q5, hq, h⟩ := sw_bnd h
            refine B_X11_qTest_94  (FC_X11_qGoesOnTest (Nat.le_refl _) hq) (Nat.lt_of_lt_of_le (by decide) hd) (fun v s hvs => ?_)
            obtain ⟨hv1, hv2⟩ := hvs; subst hv1; subst hv2
            refine B_X11_qTest_98  (fun hc => ?_) (fun hc => ?_)
            · rw [if_pos hc] at h
              exact SC_X11_qTest_105 hd h2 h
            · rw [if_neg hc] at h
              refine B_X11_qTest_101  ?_
              exact SC_X11_qTest_106 hd h2 h
        · rw [if_neg hc] at h
          obtain ⟨q6, hq, h⟩ := sw_bnd h
          refine B_X11_qTest_58  (FC_X11_qOpens (Nat.le_refl _) hq) (Nat.lt_of_lt_of_le (by decide) hd) (fun s hvs => ?_)
          subst hvs
          obtain ⟨q7, hq, h⟩ := sw_bnd h
          refine B_X11_qTest_68  (FC_X11_asks (Nat.le_refl _) hq) (Nat.lt_of_lt_of_le (by decide) hd) (fun s hvs => ?_)
          subst hvs
          refine B_X11_qTest_76  ?_
          exact h2 _ _ h
      · rw [if_pos hc] at h
        obtain ⟨q8, hq, h⟩ := sw_bnd h
        refine B_X11_qTest_24  (FC_X11_qOpens (Nat.le_refl _) hq) (Nat.lt_of_lt_of_le (by decide) hd) (fun s hvs => ?_)
        subst hvs
        refine B_X11_qTest_34  ?_
        exact h2 _ _ h
noncomputable def L_X11_qTest_2 : Nat → sw_St → Int32 → Option (Unit × sw_St)
  | 0, _, _ => none
  | k + 1, σ, x1 => S_X11_qTest_2 (fun σ x1 => L_X11_qTest_2 k σ x1) σ x1
theorem LC_X11_qTest_2 {E : sw_E} {d : Nat} (hd : 8 ≤ d) {p : Unit × sw_St} : ∀ (k : Nat) (σ : sw_St) (x1 : Int32), L_X11_qTest_2 k σ x1 = some p → sw_W E sw_gM m_X11_qTest d 2 [(0, .ref 0), (1, .int x1)] [] σ (sw_pV p) := by
  intro k
  induction k with
  | zero => intro σ x1 h; cases h
  | succ k ih => intro σ x1 h; exact SC_X11_qTest_2 hd ih h
noncomputable def F_X11_qTest (σ : sw_St) : Option (Unit × sw_St) :=
  L_X11_qTest_2 sw_fuel σ 1
theorem FC_X11_qTest {E : sw_E} {d : Nat} (hd : 8 ≤ d) {p : Unit × sw_St} {σ : sw_St} (h : F_X11_qTest σ  = some p) : sw_KV E sw_gM m_X11_qTest d [.ref 0] σ (fun s => s = p.2) := by
  unfold F_X11_qTest at h
  refine sw_K.of (by decide +kernel) rfl (Nat.le_of_ble_eq_true rfl) ?_
  show sw_W E sw_gM m_X11_qTest d 0 [(0, .ref 0)] [] σ (sw_pV p)
  refine B_X11_qTest_0  ?_
  exact LC_X11_qTest_2 hd _ _ _ h
/-! StrayWoolModel.ask()J -/
noncomputable def S_X11_ask_235 (c235 : sw_St → Int32 → Int32 → Option (Int64 × sw_St)) (σ : sw_St) (x1 : Int32) (x2 : Int32) : Option (Int64 × sw_St) :=
  (F_X11_sheepMany σ ).bind fun q1 => if q1.1 ≤ x2 then (some (q1.2.2.1 0 102, q1.2)) else ((F_X11_qTold (sw_uI q1.2 0 54 x2) x2).bind fun q2 => (F_X11_qTakes q2.2 x1 q2.1 x2).bind fun q3 => c235 q3.2 x1 (x2 + 1))
theorem SC_X11_ask_235 {E : sw_E} {d : Nat} (hd : 9 ≤ d) {p : Int64 × sw_St} {c235 : sw_St → Int32 → Int32 → Option (Int64 × sw_St)} (h235 : ∀ (σ : sw_St) (x1 : Int32) (x2 : Int32), c235 σ x1 x2 = some p → sw_W E sw_gM m_X11_ask d 235 [(0, .ref 0), (1, .int x1), (2, .int x2)] [] σ (sw_pL p)) {σ : sw_St} {x1 : Int32} {x2 : Int32} (h : S_X11_ask_235 c235 σ x1 x2 = some p) : sw_W E sw_gM m_X11_ask d 235 [(0, .ref 0), (1, .int x1), (2, .int x2)] [] σ (sw_pL p) := by
  unfold S_X11_ask_235 at h
  obtain ⟨q1, hq, h⟩ := sw_bnd h
  refine B_X11_ask_235  (FC_X11_sheepMany (Nat.le_refl _) hq) (Nat.lt_of_lt_of_le (by decide) hd) (fun v s hvs => ?_)
  obtain ⟨hv1, hv2⟩ := hvs; subst hv1; subst hv2
  refine B_X11_ask_240  (fun hc => ?_) (fun hc => ?_)
  · rw [if_pos hc] at h
    cases h
    exact B_X11_ask_265  ⟨_, rfl, rfl, rfl⟩
  · rw [if_neg hc] at h
    obtain ⟨q2, hq, h⟩ := sw_bnd h
    refine B_X11_ask_243  (FC_X11_qTold (Nat.le_refl _) hq) (Nat.lt_of_lt_of_le (by decide) hd) (fun v s hvs => ?_)
    obtain ⟨hv1, hv2⟩ := hvs; subst hv1; subst hv2
    obtain ⟨q3, hq, h⟩ := sw_bnd h
    refine B_X11_ask_255  (FC_X11_qTakes (Nat.le_refl _) hq) (Nat.lt_of_lt_of_le (by decide) hd) (fun s hvs => ?_)
    subst hvs
    refine B_X11_ask_259  ?_
    exact h235 _ _ _ h
noncomputable def L_X11_ask_235 : Nat → sw_St → Int32 → Int32 → Option (Int64 × sw_St)
  | 0, _, _, _ => none
  | k + 1, σ, x1, x2 => S_X11_ask_235 (fun σ x1 x2 => L_X11_ask_235 k σ x1 x2) σ x1 x2
theorem LC_X11_ask_235 {E : sw_E} {d : Nat} (hd : 9 ≤ d) {p : Int64 × sw_St} : ∀ (k : Nat) (σ : sw_St) (x1 : Int32) (x2 : Int32), L_X11_ask_235 k σ x1 x2 = some p → sw_W E sw_gM m_X11_ask d 235 [(0, .ref 0), (1, .int x1), (2, .int x2)] [] σ (sw_pL p) := by
  intro k
  induction k with
  | zero => intro σ x1 x2 h; cases h
  | succ k ih => intro σ x1 x2 h; exact SC_X11_ask_235 hd ih h
noncomputable def S_X11_ask_215 (c167 : sw_St → Int32 → Int32 → Option (Int64 × sw_St)) (c177 : sw_St → Int32 → Int32 → Int32 → Option (Int64 × sw_St)) (σ : sw_St) (x1 : Int32) (x2 : Int32) (x3 : Int32) (sy0 : Int64) (sx1 : Int32) : Option (Int64 × sw_St) :=
  if sw_inb sx1 60 = true then (c177 (sw_uL σ 40 sx1.toNatClampNeg sy0) x1 x2 (x3 + 1)) else none
theorem SC_X11_ask_215 {E : sw_E} {d : Nat} (hd : 9 ≤ d) {p : Int64 × sw_St} {c167 : sw_St → Int32 → Int32 → Option (Int64 × sw_St)} {c177 : sw_St → Int32 → Int32 → Int32 → Option (Int64 × sw_St)} (h167 : ∀ (σ : sw_St) (x1 : Int32) (x2 : Int32), c167 σ x1 x2 = some p → sw_W E sw_gM m_X11_ask d 167 [(0, .ref 0), (1, .int x1), (2, .int x2)] [] σ (sw_pL p)) (h177 : ∀ (σ : sw_St) (x1 : Int32) (x2 : Int32) (x3 : Int32), c177 σ x1 x2 x3 = some p → sw_W E sw_gM m_X11_ask d 177 [(0, .ref 0), (1, .int x1), (2, .int x2), (3, .int x3)] [] σ (sw_pL p)) {σ : sw_St} {x1 : Int32} {x2 : Int32} {x3 : Int32} {sy0 : Int64} {sx1 : Int32} (h : S_X11_ask_215 c167 c177 σ x1 x2 x3 sy0 sx1 = some p) : sw_W E sw_gM m_X11_ask d 215 [(0, .ref 0), (1, .int x1), (2, .int x2), (3, .int x3)] [.long sy0, .int sx1, .ref 40] σ (sw_pL p) := by
  unfold S_X11_ask_215 at h
  obtain ⟨o1, h⟩ := sw_ifs h
  refine B_X11_ask_215 (sw_inb_sp o1) ?_
  exact h177 _ _ _ _ h
noncomputable def S_X11_ask_177 (c167 : sw_St → Int32 → Int32 → Option (Int64 × sw_St)) (c177 : sw_St → Int32 → Int32 → Int32 → Option (Int64 × sw_St)) (σ : sw_St) (x1 : Int32) (x2 : Int32) (x3 : Int32) : Option (Int64 × sw_St) :=
  (F_X11_gapMany σ ).bind fun q1 => if q1.1 ≤ x3 then (c167 q1.2 x1 (x2 + 1)) else ((F_X11_beyond q1.2 x2 x3).bind fun q2 => if q2.1 = (-1) then (S_X11_ask_215 c167 c177 q2.2 x1 x2 x3 0 ((10 * x2) + x3)) else ((F_X11_luresOf q2.2 x2 x3).bind fun q3 => S_X11_ask_215 c167 c177 q3.2 x1 x2 x3 q3.1 ((10 * x2) + x3)))
theorem SC_X11_ask_177 {E : sw_E} {d : Nat} (hd : 9 ≤ d) {p : Int64 × sw_St} {c167 : sw_St → Int32 → Int32 → Option (Int64 × sw_St)} {c177 : sw_St → Int32 → Int32 → Int32 → Option (Int64 × sw_St)} (h167 : ∀ (σ : sw_St) (x1 : Int32) (x2 : Int32), c167 σ x1 x2 = some p → sw_W E sw_gM m_X11_ask d 167 [(0, .ref 0), (1, .int x1), (2, .int x2)] [] σ (sw_pL p)) (h177 : ∀ (σ : sw_St) (x1 : Int32) (x2 : Int32) (x3 : Int32), c177 σ x1 x2 x3 = some p → sw_W E sw_gM m_X11_ask d 177 [(0, .ref 0), (1, .int x1), (2, .int x2), (3, .int x3)] [] σ (sw_pL p)) {σ : sw_St} {x1 : Int32} {x2 : Int32} {x3 : Int32} (h : S_X11_ask_177 c167 c177 σ x1 x2 x3 = some p) : sw_W E sw_gM m_X11_ask d 177 [(0, .ref 0), (1, .int x1), (2, .int x2), (3, .int x3)] [] σ (sw_pL p) := by
  unfold S_X11_ask_177 at h
  obtain ⟨q1, hq, h⟩ := sw_bnd h
  refine B_X11_ask_177  (FC_X11_gapMany (Nat.le_refl _) hq) (Nat.lt_of_lt_of_le (by decide) hd) (fun v s hvs => ?_)
  obtain ⟨hv1, hv2⟩ := hvs; subst hv1; subst hv2
  refine B_X11_ask_182  (fun hc => ?_) (fun hc => ?_)
  · rw [if_pos hc] at h
    refine B_X11_ask_222  ?_
    exact h167 _ _ _ h
  · rw [if_neg hc] at h
    obtain ⟨q2, hq, h⟩ := sw_bnd h
    refine B_X11_ask_185  (FC_X11_beyond (Nat.le_refl _) hq) (Nat.lt_of_lt_of_le (by decide) hd) (fun v s hvs => ?_)
    obtain ⟨hv1, hv2⟩ := hvs; subst hv1; subst hv2
    refine B_X11_ask_201  (fun hc => ?_) (fun hc => ?_)
    · rw [if_neg hc] at h
      obtain ⟨q3, hq, h⟩ := sw_bnd h
      refine B_X11_ask_209  (FC_X11_luresOf (Nat.le_refl _) hq) (Nat.lt_of_lt_of_le (by decide) hd) (fun v s hvs => ?_)
      obtain ⟨hv1, hv2⟩ := hvs; subst hv1; subst hv2
      exact SC_X11_ask_215 hd h167 h177 h
    · rw [if_pos hc] at h
      refine B_X11_ask_205  ?_
      exact SC_X11_ask_215 hd h167 h177 h
noncomputable def L_X11_ask_177 (c167 : sw_St → Int32 → Int32 → Option (Int64 × sw_St)) : Nat → sw_St → Int32 → Int32 → Int32 → Option (Int64 × sw_St)
  | 0, _, _, _, _ => none
  | k + 1, σ, x1, x2, x3 => S_X11_ask_177 c167 (fun σ x1 x2 x3 => L_X11_ask_177 c167 k σ x1 x2 x3) σ x1 x2 x3
theorem LC_X11_ask_177 {E : sw_E} {d : Nat} (hd : 9 ≤ d) {p : Int64 × sw_St} {c167 : sw_St → Int32 → Int32 → Option (Int64 × sw_St)} (h167 : ∀ (σ : sw_St) (x1 : Int32) (x2 : Int32), c167 σ x1 x2 = some p → sw_W E sw_gM m_X11_ask d 167 [(0, .ref 0), (1, .int x1), (2, .int x2)] [] σ (sw_pL p)) : ∀ (k : Nat) (σ : sw_St) (x1 : Int32) (x2 : Int32) (x3 : Int32), L_X11_ask_177 c167 k σ x1 x2 x3 = some p → sw_W E sw_gM m_X11_ask d 177 [(0, .ref 0), (1, .int x1), (2, .int x2), (3, .int x3)] [] σ (sw_pL p) := by
  intro k
  induction k with
  | zero => intro σ x1 x2 x3 h; cases h
  | succ k ih => intro σ x1 x2 x3 h; exact SC_X11_ask_177 hd h167 ih h
noncomputable def S_X11_ask_167 (c167 : sw_St → Int32 → Int32 → Option (Int64 × sw_St)) (σ : sw_St) (x1 : Int32) (x2 : Int32) : Option (Int64 × sw_St) :=
  (F_X11_sheepMany σ ).bind fun q1 => if q1.1 ≤ x2 then (L_X11_ask_235 sw_fuel (sw_uI q1.2 0 48 3) x1 0) else (L_X11_ask_177 c167 sw_fuel q1.2 x1 x2 0)
theorem SC_X11_ask_167 {E : sw_E} {d : Nat} (hd : 9 ≤ d) {p : Int64 × sw_St} {c167 : sw_St → Int32 → Int32 → Option (Int64 × sw_St)} (h167 : ∀ (σ : sw_St) (x1 : Int32) (x2 : Int32), c167 σ x1 x2 = some p → sw_W E sw_gM m_X11_ask d 167 [(0, .ref 0), (1, .int x1), (2, .int x2)] [] σ (sw_pL p)) {σ : sw_St} {x1 : Int32} {x2 : Int32} (h : S_X11_ask_167 c167 σ x1 x2 = some p) : sw_W E sw_gM m_X11_ask d 167 [(0, .ref 0), (1, .int x1), (2, .int x2)] [] σ (sw_pL p) := by
  unfold S_X11_ask_167 at h
  obtain ⟨q1, hq, h⟩ := sw_bnd h
  refine B_X11_ask_167  (FC_X11_sheepMany (Nat.le_refl _) hq) (Nat.lt_of_lt_of_le (by decide) hd) (fun v s hvs => ?_)
  obtain ⟨hv1, hv2⟩ := hvs; subst hv1; subst hv2
  refine B_X11_ask_172  (fun hc => ?_) (fun hc => ?_)
  · rw [if_pos hc] at h
    refine B_X11_ask_228  ?_
    exact LC_X11_ask_235 hd _ _ _ _ h
  · rw [if_neg hc] at h
    refine B_X11_ask_175  ?_
    exact LC_X11_ask_177 hd h167 _ _ _ _ _ h
noncomputable def L_X11_ask_167 : Nat → sw_St → Int32 → Int32 → Option (Int64 × sw_St)
  | 0, _, _, _ => none
  | k + 1, σ, x1, x2 => S_X11_ask_167 (fun σ x1 x2 => L_X11_ask_167 k σ x1 x2) σ x1 x2
theorem LC_X11_ask_167 {E : sw_E} {d : Nat} (hd : 9 ≤ d) {p : Int64 × sw_St} : ∀ (k : Nat) (σ : sw_St) (x1 : Int32) (x2 : Int32), L_X11_ask_167 k σ x1 x2 = some p → sw_W E sw_gM m_X11_ask d 167 [(0, .ref 0), (1, .int x1), (2, .int x2)] [] σ (sw_pL p) := by
  intro k
  induction k with
  | zero => intro σ x1 x2 h; cases h
  | succ k ih => intro σ x1 x2 h; exact SC_X11_ask_167 hd ih h
noncomputable def S_X11_ask_157 (σ : sw_St) (x1 : Int32) (sy0 : Int64) : Option (Int64 × sw_St) :=
  L_X11_ask_167 sw_fuel (sw_uI (sw_uL σ 0 102 sy0) 0 103 1) x1 0
theorem SC_X11_ask_157 {E : sw_E} {d : Nat} (hd : 9 ≤ d) {p : Int64 × sw_St} {σ : sw_St} {x1 : Int32} {sy0 : Int64} (h : S_X11_ask_157 σ x1 sy0 = some p) : sw_W E sw_gM m_X11_ask d 157 [(0, .ref 0), (1, .int x1)] [.long sy0, .ref 0] σ (sw_pL p) := by
  unfold S_X11_ask_157 at h
  refine B_X11_ask_157  ?_
  exact LC_X11_ask_167 hd _ _ _ _ h
noncomputable def S_X11_ask_144 (σ : sw_St) (x1 : Int32) : Option (Int64 × sw_St) :=
  if 2 ≤ x1 then (S_X11_ask_157 σ x1 0) else (S_X11_ask_157 σ x1 (-1))
theorem SC_X11_ask_144 {E : sw_E} {d : Nat} (hd : 9 ≤ d) {p : Int64 × sw_St} {σ : sw_St} {x1 : Int32} (h : S_X11_ask_144 σ x1 = some p) : sw_W E sw_gM m_X11_ask d 144 [(0, .ref 0), (1, .int x1)] [] σ (sw_pL p) := by
  unfold S_X11_ask_144 at h
  refine B_X11_ask_144  (fun hc => ?_) (fun hc => ?_)
  · rw [if_pos hc] at h
    refine B_X11_ask_156  ?_
    exact SC_X11_ask_157 hd h
  · rw [if_neg hc] at h
    refine B_X11_ask_150  ?_
    exact SC_X11_ask_157 hd h
noncomputable def S_X11_ask_140 (σ : sw_St) : Option (Int64 × sw_St) :=
  some ((-1000000000000000), σ)
theorem SC_X11_ask_140 {E : sw_E} {d : Nat} (hd : 9 ≤ d) {p : Int64 × sw_St} {σ : sw_St} (h : S_X11_ask_140 σ  = some p) : sw_W E sw_gM m_X11_ask d 140 [] [] σ (sw_pL p) := by
  unfold S_X11_ask_140 at h
  cases h
  exact B_X11_ask_140  ⟨_, rfl, rfl, rfl⟩
noncomputable def S_X11_ask_117 (σ : sw_St) (x1 : Int32) : Option (Int64 × sw_St) :=
  if (σ.1 0 5) = 0 then (S_X11_ask_144 (sw_uI (sw_uI σ 0 7 (σ.1 0 5)) 0 8 (σ.1 0 6)) x1) else (S_X11_ask_140 (sw_uI (sw_uI σ 0 7 (σ.1 0 5)) 0 8 (σ.1 0 6)) )
theorem SC_X11_ask_117 {E : sw_E} {d : Nat} (hd : 9 ≤ d) {p : Int64 × sw_St} {σ : sw_St} {x1 : Int32} (h : S_X11_ask_117 σ x1 = some p) : sw_W E sw_gM m_X11_ask d 117 [(0, .ref 0), (1, .int x1)] [] σ (sw_pL p) := by
  unfold S_X11_ask_117 at h
  refine B_X11_ask_117  (fun hc => ?_) (fun hc => ?_)
  · rw [if_pos hc] at h
    exact SC_X11_ask_144 hd h
  · rw [if_neg hc] at h
    exact SC_X11_ask_140 hd h
noncomputable def S_X11_ask_93 (σ : sw_St) (x1 : Int32) : Option (Int64 × sw_St) :=
  if (σ.1 0 5) = 0 then ((F_X11_look σ ).bind fun q1 => if q1.1 = (-1) then (S_X11_ask_117 q1.2 x1) else ((F_X11_fail q1.2 1 (q1.2.1 0 2)).bind fun q2 => S_X11_ask_117 q2.2 x1)) else (S_X11_ask_117 σ x1)
theorem SC_X11_ask_93 {E : sw_E} {d : Nat} (hd : 9 ≤ d) {p : Int64 × sw_St} {σ : sw_St} {x1 : Int32} (h : S_X11_ask_93 σ x1 = some p) : sw_W E sw_gM m_X11_ask d 93 [(0, .ref 0), (1, .int x1)] [] σ (sw_pL p) := by
  unfold S_X11_ask_93 at h
  refine B_X11_ask_93  (fun hc => ?_) (fun hc => ?_)
  · rw [if_neg hc] at h
    exact SC_X11_ask_117 hd h
  · rw [if_pos hc] at h
    obtain ⟨q1, hq, h⟩ := sw_bnd h
    refine B_X11_ask_100  (FC_X11_look (Nat.le_refl _) hq) (Nat.lt_of_lt_of_le (by decide) hd) (fun v s hvs => ?_)
    obtain ⟨hv1, hv2⟩ := hvs; subst hv1; subst hv2
    refine B_X11_ask_104  (fun hc => ?_) (fun hc => ?_)
    · rw [if_pos hc] at h
      exact SC_X11_ask_117 hd h
    · rw [if_neg hc] at h
      obtain ⟨q2, hq, h⟩ := sw_bnd h
      refine B_X11_ask_108  (FC_X11_fail (Nat.le_refl _) hq) (Nat.lt_of_lt_of_le (by decide) hd) (fun s hvs => ?_)
      subst hvs
      exact SC_X11_ask_117 hd h
noncomputable def S_X11_ask_82 (σ : sw_St) (x1 : Int32) : Option (Int64 × sw_St) :=
  if (σ.1 0 5) = 0 then ((F_X11_qSums σ ).bind fun q1 => S_X11_ask_93 q1.2 x1) else (S_X11_ask_93 σ x1)
theorem SC_X11_ask_82 {E : sw_E} {d : Nat} (hd : 9 ≤ d) {p : Int64 × sw_St} {σ : sw_St} {x1 : Int32} (h : S_X11_ask_82 σ x1 = some p) : sw_W E sw_gM m_X11_ask d 82 [(0, .ref 0), (1, .int x1)] [] σ (sw_pL p) := by
  unfold S_X11_ask_82 at h
  refine B_X11_ask_82  (fun hc => ?_) (fun hc => ?_)
  · rw [if_neg hc] at h
    exact SC_X11_ask_93 hd h
  · rw [if_pos hc] at h
    obtain ⟨q1, hq, h⟩ := sw_bnd h
    refine B_X11_ask_89  (FC_X11_qSums (Nat.le_refl _) hq) (Nat.lt_of_lt_of_le (by decide) hd) (fun s hvs => ?_)
    subst hvs
    exact SC_X11_ask_93 hd h
noncomputable def F_X11_ask (σ : sw_St) : Option (Int64 × sw_St) :=
  (F_X11_qKind (sw_uI (sw_uI (sw_uI (sw_uI (sw_uI (sw_uI (sw_uI (sw_uI (sw_uI (sw_uI (sw_uI σ 0 3 (σ.1 0 1)) 0 1 0) 0 2 0) 0 4 (-1)) 0 5 0) 0 6 (-1)) 0 48 3) 0 95 0) 0 97 0) 0 98 0) 0 99 0) ).bind fun q1 => if (q1.2.1 0 5) = 0 then (if 3 ≤ q1.1 then (S_X11_ask_82 q1.2 q1.1) else ((F_X11_qTest q1.2 ).bind fun q2 => S_X11_ask_93 q2.2 q1.1)) else (S_X11_ask_82 q1.2 q1.1)
theorem FC_X11_ask {E : sw_E} {d : Nat} (hd : 9 ≤ d) {p : Int64 × sw_St} {σ : sw_St} (h : F_X11_ask σ  = some p) : sw_KL E sw_gM m_X11_ask d [.ref 0] σ (fun v s => v = p.1 ∧ s = p.2) := by
  unfold F_X11_ask at h
  refine sw_K.of (by decide +kernel) rfl (Nat.le_of_ble_eq_true rfl) ?_
  show sw_W E sw_gM m_X11_ask d 0 [(0, .ref 0)] [] σ (sw_pL p)
  obtain ⟨q1, hq, h⟩ := sw_bnd h
  refine B_X11_ask_0  (FC_X11_qKind (Nat.le_refl _) hq) (Nat.lt_of_lt_of_le (by decide) hd) (fun v s hvs => ?_)
  obtain ⟨hv1, hv2⟩ := hvs; subst hv1; subst hv2
  refine B_X11_ask_62  (fun hc => ?_) (fun hc => ?_)
  · rw [if_neg hc] at h
    exact SC_X11_ask_82 hd h
  · rw [if_pos hc] at h
    refine B_X11_ask_70  (fun hc => ?_) (fun hc => ?_)
    · rw [if_pos hc] at h
      exact SC_X11_ask_82 hd h
    · rw [if_neg hc] at h
      obtain ⟨q2, hq, h⟩ := sw_bnd h
      refine B_X11_ask_75  (FC_X11_qTest (Nat.le_refl _) hq) (Nat.lt_of_lt_of_le (by decide) hd) (fun s hvs => ?_)
      subst hvs
      refine B_X11_ask_79  ?_
      exact SC_X11_ask_93 hd h
/-! StrayWoolModel.codesTold(II)V -/
noncomputable def S_X11_codesTold_92 (c92 : sw_St → Int32 → Int32 → Option (Unit × sw_St)) (σ : sw_St) (x1 : Int32) (x3 : Int32) : Option (Unit × sw_St) :=
  if (σ.1 0 95) ≤ x3 then (if sw_inb x1 6 = true then (some ((), (sw_uI σ 35 x1.toNatClampNeg (σ.1 0 46)))) else none) else (if sw_inb x3 1700 = true then (if sw_inb (σ.1 0 46) 3200 = true then (c92 (sw_uI (sw_uI σ 36 ((σ.1 0 46).toNatClampNeg) (σ.1 71 x3.toNatClampNeg)) 0 46 ((σ.1 0 46) + 1)) x1 (x3 + 1)) else none) else none)
theorem SC_X11_codesTold_92 {E : sw_E} {d : Nat} (hd : 9 ≤ d) {p : Unit × sw_St} {c92 : sw_St → Int32 → Int32 → Option (Unit × sw_St)} (h92 : ∀ (σ : sw_St) (x1 : Int32) (x3 : Int32), c92 σ x1 x3 = some p → sw_W E sw_gM m_X11_codesTold d 92 [(0, .ref 0), (1, .int x1), (3, .int x3)] [] σ (sw_pV p)) {σ : sw_St} {x1 : Int32} {x3 : Int32} (h : S_X11_codesTold_92 c92 σ x1 x3 = some p) : sw_W E sw_gM m_X11_codesTold d 92 [(0, .ref 0), (1, .int x1), (3, .int x3)] [] σ (sw_pV p) := by
  unfold S_X11_codesTold_92 at h
  refine B_X11_codesTold_92  (fun hc => ?_) (fun hc => ?_)
  · rw [if_pos hc] at h
    obtain ⟨o1, h⟩ := sw_ifs h
    cases h
    exact B_X11_codesTold_131 (sw_inb_sp o1) ⟨rfl, rfl⟩
  · rw [if_neg hc] at h
    obtain ⟨o2, h⟩ := sw_ifs h
    obtain ⟨o3, h⟩ := sw_ifs h
    refine B_X11_codesTold_100 (sw_inb_sp o2) (sw_inb_sp o3) ?_
    exact h92 _ _ _ h
noncomputable def L_X11_codesTold_92 : Nat → sw_St → Int32 → Int32 → Option (Unit × sw_St)
  | 0, _, _, _ => none
  | k + 1, σ, x1, x3 => S_X11_codesTold_92 (fun σ x1 x3 => L_X11_codesTold_92 k σ x1 x3) σ x1 x3
theorem LC_X11_codesTold_92 {E : sw_E} {d : Nat} (hd : 9 ≤ d) {p : Unit × sw_St} : ∀ (k : Nat) (σ : sw_St) (x1 : Int32) (x3 : Int32), L_X11_codesTold_92 k σ x1 x3 = some p → sw_W E sw_gM m_X11_codesTold d 92 [(0, .ref 0), (1, .int x1), (3, .int x3)] [] σ (sw_pV p) := by
  intro k
  induction k with
  | zero => intro σ x1 x3 h; cases h
  | succ k ih => intro σ x1 x3 h; exact SC_X11_codesTold_92 hd ih h
noncomputable def S_X11_codesTold_72 (σ : sw_St) (x1 : Int32) : Option (Unit × sw_St) :=
  if (σ.1 0 5) = 0 then (if sw_inb x1 6 = true then (L_X11_codesTold_92 sw_fuel (sw_uI σ 34 x1.toNatClampNeg (σ.1 0 46)) x1 0) else none) else (some ((), σ))
theorem SC_X11_codesTold_72 {E : sw_E} {d : Nat} (hd : 9 ≤ d) {p : Unit × sw_St} {σ : sw_St} {x1 : Int32} (h : S_X11_codesTold_72 σ x1 = some p) : sw_W E sw_gM m_X11_codesTold d 72 [(0, .ref 0), (1, .int x1)] [] σ (sw_pV p) := by
  unfold S_X11_codesTold_72 at h
  refine B_X11_codesTold_72  (fun hc => ?_) (fun hc => ?_)
  · rw [if_pos hc] at h
    obtain ⟨o1, h⟩ := sw_ifs h
    refine B_X11_codesTold_80 (sw_inb_sp o1) ?_
    exact LC_X11_codesTold_92 hd _ _ _ _ h
  · rw [if_neg hc] at h
    cases h
    exact B_X11_codesTold_79  ⟨rfl, rfl⟩
noncomputable def S_X11_codesTold_68 (σ : sw_St) (x1 : Int32) : Option (Unit × sw_St) :=
  (F_X11_qSums σ ).bind fun q1 => S_X11_codesTold_72 q1.2 x1
theorem SC_X11_codesTold_68 {E : sw_E} {d : Nat} (hd : 9 ≤ d) {p : Unit × sw_St} {σ : sw_St} {x1 : Int32} (h : S_X11_codesTold_68 σ x1 = some p) : sw_W E sw_gM m_X11_codesTold d 68 [(0, .ref 0), (1, .int x1)] [] σ (sw_pV p) := by
  unfold S_X11_codesTold_68 at h
  obtain ⟨q1, hq, h⟩ := sw_bnd h
  refine B_X11_codesTold_68  (FC_X11_qSums (Nat.le_refl _) hq) (Nat.lt_of_lt_of_le (by decide) hd) (fun s hvs => ?_)
  subst hvs
  exact SC_X11_codesTold_72 hd h
noncomputable def S_X11_codesTold_61 (σ : sw_St) (x1 : Int32) : Option (Unit × sw_St) :=
  (F_X11_qTest σ ).bind fun q1 => S_X11_codesTold_72 q1.2 x1
theorem SC_X11_codesTold_61 {E : sw_E} {d : Nat} (hd : 9 ≤ d) {p : Unit × sw_St} {σ : sw_St} {x1 : Int32} (h : S_X11_codesTold_61 σ x1 = some p) : sw_W E sw_gM m_X11_codesTold d 61 [(0, .ref 0), (1, .int x1)] [] σ (sw_pV p) := by
  unfold S_X11_codesTold_61 at h
  obtain ⟨q1, hq, h⟩ := sw_bnd h
  refine B_X11_codesTold_61  (FC_X11_qTest (Nat.le_refl _) hq) (Nat.lt_of_lt_of_le (by decide) hd) (fun s hvs => ?_)
  subst hvs
  refine B_X11_codesTold_65  ?_
  exact SC_X11_codesTold_72 hd h
noncomputable def S_X11_codesTold_23 (σ : sw_St) (x1 : Int32) : Option (Unit × sw_St) :=
  if (σ.1 0 5) = 0 then (if x1 = 1 then (S_X11_codesTold_61 (sw_uI (sw_uI (sw_uI (sw_uI (sw_uI σ 0 48 x1) 0 95 0) 0 97 0) 0 98 0) 0 99 0) x1) else (S_X11_codesTold_68 (sw_uI (sw_uI (sw_uI (sw_uI (sw_uI σ 0 48 x1) 0 95 0) 0 97 0) 0 98 0) 0 99 0) x1)) else (some ((), σ))
theorem SC_X11_codesTold_23 {E : sw_E} {d : Nat} (hd : 9 ≤ d) {p : Unit × sw_St} {σ : sw_St} {x1 : Int32} (h : S_X11_codesTold_23 σ x1 = some p) : sw_W E sw_gM m_X11_codesTold d 23 [(0, .ref 0), (1, .int x1)] [] σ (sw_pV p) := by
  unfold S_X11_codesTold_23 at h
  refine B_X11_codesTold_23  (fun hc => ?_) (fun hc => ?_)
  · rw [if_pos hc] at h
    refine B_X11_codesTold_31  (fun hc => ?_) (fun hc => ?_)
    · rw [if_neg hc] at h
      exact SC_X11_codesTold_68 hd h
    · rw [if_pos hc] at h
      exact SC_X11_codesTold_61 hd h
  · rw [if_neg hc] at h
    cases h
    exact B_X11_codesTold_30  ⟨rfl, rfl⟩
noncomputable def F_X11_codesTold (σ : sw_St) (x1 : Int32) (x2 : Int32) : Option (Unit × sw_St) :=
  if (σ.1 0 5) = 0 then (if sw_inb x1 6 = true then (if (σ.1 34 x1.toNatClampNeg) = (-1) then (S_X11_codesTold_23 σ x1) else ((F_X11_fail σ 5 x2).bind fun q2 => S_X11_codesTold_23 q2.2 x1)) else none) else (S_X11_codesTold_23 σ x1)
theorem FC_X11_codesTold {E : sw_E} {d : Nat} (hd : 9 ≤ d) {p : Unit × sw_St} {σ : sw_St} {x1 : Int32} {x2 : Int32} (h : F_X11_codesTold σ x1 x2 = some p) : sw_KV E sw_gM m_X11_codesTold d [.ref 0, .int x1, .int x2] σ (fun s => s = p.2) := by
  unfold F_X11_codesTold at h
  refine sw_K.of (by decide +kernel) rfl (Nat.le_of_ble_eq_true rfl) ?_
  show sw_W E sw_gM m_X11_codesTold d 0 [(0, .ref 0), (1, .int x1), (2, .int x2)] [] σ (sw_pV p)
  refine B_X11_codesTold_0  (fun hc => ?_) (fun hc => ?_)
  · rw [if_neg hc] at h
    exact SC_X11_codesTold_23 hd h
  · rw [if_pos hc] at h
    obtain ⟨o1, h⟩ := sw_ifs h
    refine B_X11_codesTold_7 (sw_inb_sp o1) (fun hc => ?_) (fun hc => ?_)
    · rw [if_pos hc] at h
      exact SC_X11_codesTold_23 hd h
    · rw [if_neg hc] at h
      obtain ⟨q2, hq, h⟩ := sw_bnd h
      refine B_X11_codesTold_17  (FC_X11_fail (Nat.le_refl _) hq) (Nat.lt_of_lt_of_le (by decide) hd) (fun s hvs => ?_)
      subst hvs
      exact SC_X11_codesTold_23 hd h
/-! StrayWoolModel.statementTold()V -/
noncomputable def S_X11_statementTold_177 (σ : sw_St) : Option (Unit × sw_St) :=
  (F_X11_asksSign σ 59).bind fun q1 => some ((), (sw_uI q1.2 0 47 ((q1.2.1 0 47) + 1)))
theorem SC_X11_statementTold_177 {E : sw_E} {d : Nat} (hd : 10 ≤ d) {p : Unit × sw_St} {σ : sw_St} (h : S_X11_statementTold_177 σ  = some p) : sw_W E sw_gM m_X11_statementTold d 177 [(0, .ref 0)] [] σ (sw_pV p) := by
  unfold S_X11_statementTold_177 at h
  obtain ⟨q1, hq, h⟩ := sw_bnd h
  refine B_X11_statementTold_177  (FC_X11_asksSign (Nat.le_refl _) hq) (Nat.lt_of_lt_of_le (by decide) hd) (fun s hvs => ?_)
  subst hvs
  cases h
  exact B_X11_statementTold_183  ⟨rfl, rfl⟩
noncomputable def F_X11_statementTold (σ : sw_St) : Option (Unit × sw_St) :=
  if (σ.1 0 47) = 60 then ((F_X11_fail σ 5 (σ.1 0 2)).bind fun q18 => some ((), q18.2)) else ((F_X11_takes σ 3).bind fun q1 => if q1.1 = 0 then ((F_X11_takes q1.2 5).bind fun q2 => if q2.1 = 0 then ((F_X11_takes q2.2 8).bind fun q3 => if q3.1 = 0 then ((F_X11_takes q3.2 9).bind fun q4 => if q4.1 = 0 then ((F_X11_takes q4.2 12).bind fun q5 => if q5.1 = 0 then ((F_X11_takes q5.2 13).bind fun q6 => if q6.1 = 0 then ((F_X11_takes q6.2 14).bind fun q7 => if q7.1 = 0 then ((F_X11_asks q7.2 15).bind fun q8 => (F_X11_number q8.2 0 100).bind fun q9 => if sw_inb 3 8 = true then (S_X11_statementTold_177 (sw_uI q9.2 28 (3 : Int32).toNatClampNeg q9.1) ) else none) else ((F_X11_codesTold q7.2 2 (σ.1 0 2)).bind fun q11 => S_X11_statementTold_177 q11.2 )) else ((F_X11_codesTold q6.2 1 (σ.1 0 2)).bind fun q12 => S_X11_statementTold_177 q12.2 )) else ((F_X11_codesTold q5.2 0 (σ.1 0 2)).bind fun q13 => S_X11_statementTold_177 q13.2 )) else ((F_X11_sheepTold q4.2 (σ.1 0 2)).bind fun q14 => S_X11_statementTold_177 q14.2 )) else ((F_X11_shutTold q3.2 ).bind fun q15 => S_X11_statementTold_177 q15.2 )) else ((F_X11_gapTold q2.2 (σ.1 0 2)).bind fun q16 => S_X11_statementTold_177 q16.2 )) else ((F_X11_fieldTold q1.2 (σ.1 0 2)).bind fun q17 => S_X11_statementTold_177 q17.2 ))
theorem FC_X11_statementTold {E : sw_E} {d : Nat} (hd : 10 ≤ d) {p : Unit × sw_St} {σ : sw_St} (h : F_X11_statementTold σ  = some p) : sw_KV E sw_gM m_X11_statementTold d [.ref 0] σ (fun s => s = p.2) := by
  unfold F_X11_statementTold at h
  refine sw_K.of (by decide +kernel) rfl (Nat.le_of_ble_eq_true rfl) ?_
  show sw_W E sw_gM m_X11_statementTold d 0 [(0, .ref 0)] [] σ (sw_pV p)
  refine B_X11_statementTold_0  (fun hc => ?_) (fun hc => ?_)
  · rw [if_neg hc] at h
    obtain ⟨q1, hq, h⟩ := sw_bnd h
    refine B_X11_statementTold_21  (FC_X11_takes (Nat.le_refl _) hq) (Nat.lt_of_lt_of_le (by decide) hd) (fun v s hvs => ?_)
    obtain ⟨hv1, hv2⟩ := hvs; subst hv1; subst hv2
    refine B_X11_statementTold_29  (fun hc => ?_) (fun hc => ?_)
    · rw [if_pos hc] at h
      obtain ⟨q2, hq, h⟩ := sw_bnd h
      refine B_X11_statementTold_40  (FC_X11_takes (Nat.le_refl _) hq) (Nat.lt_of_lt_of_le (by decide) hd) (fun v s hvs => ?_)
      obtain ⟨hv1, hv2⟩ := hvs; subst hv1; subst hv2
      refine B_X11_statementTold_48  (fun hc => ?_) (fun hc => ?_)
      · rw [if_pos hc] at h
        obtain ⟨q3, hq, h⟩ := sw_bnd h
        refine B_X11_statementTold_59  (FC_X11_takes (Nat.le_refl _) hq) (Nat.lt_of_lt_of_le (by decide) hd) (fun v s hvs => ?_)
        obtain ⟨hv1, hv2⟩ := hvs; subst hv1; subst hv2
        refine B_X11_statementTold_67  (fun hc => ?_) (fun hc => ?_)
        · rw [if_pos hc] at h
          obtain ⟨q4, hq, h⟩ := sw_bnd h
          refine B_X11_statementTold_77  (FC_X11_takes (Nat.le_refl _) hq) (Nat.lt_of_lt_of_le (by decide) hd) (fun v s hvs => ?_)
          obtain ⟨hv1, hv2⟩ := hvs; subst hv1; subst hv2
          refine B_X11_statementTold_85  (fun hc => ?_) (fun hc => ?_)
          · rw [if_pos hc] at h
            obtain ⟨q5, hq, h⟩ := sw_bnd h
            refine B_X11_statementTold_96  (FC_X11_takes (Nat.le_refl _) hq) (Nat.lt_of_lt_of_le (by decide) hd) (fun v s hvs => ?_)
            obtain ⟨hv1, hv2⟩ := hvs; subst hv1; subst hv2
            refine B_X11_statementTold_104  (fun hc => ?_) (fun hc => ?_)
            · rw [if_pos hc] at h
              obtain ⟨q6, hq, h⟩ := sw_bnd h
              refine B_X11_statementTold_116  (FC_X11_takes (Nat.le_refl _) hq) (Nat.lt_of_lt_of_le (by decide) hd) (fun v s hvs => ?_)
              obtain ⟨hv1, hv2⟩ := hvs; subst hv1; subst hv2
              refine B_X11_statementTold_124  (fun hc => ?_) (fun hc => ?_)
              · rw [if_pos hc] at h
                obtain ⟨q7, hq, h⟩ := sw_bnd h
                refine B_X11_statementTold_136  (FC_X11_takes (Nat.le_refl _) hq) (Nat.lt_of_lt_of_le (by decide) hd) (fun v s hvs => ?_)
                obtain ⟨hv1, hv2⟩ := hvs; subst hv1; subst hv2
                refine B_X11_statementTold_144  (fun hc => ?_) (fun hc => ?_)
                · rw [if_pos hc] at h
                  obtain ⟨q8, hq, h⟩ := sw_bnd h
                  refine B_X11_statementTold_156  (FC_X11_asks (Nat.le_refl _) hq) (Nat.lt_of_lt_of_le (by decide) hd) (fun s hvs => ?_)
                  subst hvs
                  obtain ⟨q9, hq, h⟩ := sw_bnd h
                  refine B_X11_statementTold_164  (FC_X11_number (Nat.le_refl _) hq) (Nat.lt_of_lt_of_le (by decide) hd) (fun v s hvs => ?_)
                  obtain ⟨hv1, hv2⟩ := hvs; subst hv1; subst hv2
                  obtain ⟨o10, h⟩ := sw_ifs h
                  refine B_X11_statementTold_176 (sw_inb_sp o10) ?_
                  exact SC_X11_statementTold_177 hd h
                · rw [if_neg hc] at h
                  obtain ⟨q11, hq, h⟩ := sw_bnd h
                  refine B_X11_statementTold_147  (FC_X11_codesTold (Nat.le_refl _) hq) (Nat.lt_of_lt_of_le (by decide) hd) (fun s hvs => ?_)
                  subst hvs
                  refine B_X11_statementTold_153  ?_
                  exact SC_X11_statementTold_177 hd h
              · rw [if_neg hc] at h
                obtain ⟨q12, hq, h⟩ := sw_bnd h
                refine B_X11_statementTold_127  (FC_X11_codesTold (Nat.le_refl _) hq) (Nat.lt_of_lt_of_le (by decide) hd) (fun s hvs => ?_)
                subst hvs
                refine B_X11_statementTold_133  ?_
                exact SC_X11_statementTold_177 hd h
            · rw [if_neg hc] at h
              obtain ⟨q13, hq, h⟩ := sw_bnd h
              refine B_X11_statementTold_107  (FC_X11_codesTold (Nat.le_refl _) hq) (Nat.lt_of_lt_of_le (by decide) hd) (fun s hvs => ?_)
              subst hvs
              refine B_X11_statementTold_113  ?_
              exact SC_X11_statementTold_177 hd h
          · rw [if_neg hc] at h
            obtain ⟨q14, hq, h⟩ := sw_bnd h
            refine B_X11_statementTold_88  (FC_X11_sheepTold (Nat.le_refl _) hq) (Nat.lt_of_lt_of_le (by decide) hd) (fun s hvs => ?_)
            subst hvs
            refine B_X11_statementTold_93  ?_
            exact SC_X11_statementTold_177 hd h
        · rw [if_neg hc] at h
          obtain ⟨q15, hq, h⟩ := sw_bnd h
          refine B_X11_statementTold_70  (FC_X11_shutTold (Nat.le_refl _) hq) (Nat.lt_of_lt_of_le (by decide) hd) (fun s hvs => ?_)
          subst hvs
          refine B_X11_statementTold_74  ?_
          exact SC_X11_statementTold_177 hd h
      · rw [if_neg hc] at h
        obtain ⟨q16, hq, h⟩ := sw_bnd h
        refine B_X11_statementTold_51  (FC_X11_gapTold (Nat.le_refl _) hq) (Nat.lt_of_lt_of_le (by decide) hd) (fun s hvs => ?_)
        subst hvs
        refine B_X11_statementTold_56  ?_
        exact SC_X11_statementTold_177 hd h
    · rw [if_neg hc] at h
      obtain ⟨q17, hq, h⟩ := sw_bnd h
      refine B_X11_statementTold_32  (FC_X11_fieldTold (Nat.le_refl _) hq) (Nat.lt_of_lt_of_le (by decide) hd) (fun s hvs => ?_)
      subst hvs
      refine B_X11_statementTold_37  ?_
      exact SC_X11_statementTold_177 hd h
  · rw [if_pos hc] at h
    obtain ⟨q18, hq, h⟩ := sw_bnd h
    refine B_X11_statementTold_14  (FC_X11_fail (Nat.le_refl _) hq) (Nat.lt_of_lt_of_le (by decide) hd) (fun s hvs => ?_)
    subst hvs
    cases h
    exact B_X11_statementTold_20  ⟨rfl, rfl⟩
/-! StrayWoolModel.upland()I -/
noncomputable def S_X11_upland_140 (σ : sw_St) : Option (Int32 × sw_St) :=
  (F_X11_stands σ ).bind fun q1 => some (q1.2.1 0 47, q1.2)
theorem SC_X11_upland_140 {E : sw_E} {d : Nat} (hd : 11 ≤ d) {p : Int32 × sw_St} {σ : sw_St} (h : S_X11_upland_140 σ  = some p) : sw_W E sw_gM m_X11_upland d 140 [(0, .ref 0)] [] σ (sw_pI p) := by
  unfold S_X11_upland_140 at h
  obtain ⟨q1, hq, h⟩ := sw_bnd h
  refine B_X11_upland_140  (FC_X11_stands (Nat.le_refl _) hq) (Nat.lt_of_lt_of_le (by decide) hd) (fun s hvs => ?_)
  subst hvs
  cases h
  exact B_X11_upland_144  ⟨_, rfl, rfl, rfl⟩
noncomputable def S_X11_upland_128 (σ : sw_St) : Option (Int32 × sw_St) :=
  some ((-1), (sw_uI σ 2 1 ((σ.1 2 1) + 1)))
theorem SC_X11_upland_128 {E : sw_E} {d : Nat} (hd : 11 ≤ d) {p : Int32 × sw_St} {σ : sw_St} (h : S_X11_upland_128 σ  = some p) : sw_W E sw_gM m_X11_upland d 128 [(0, .ref 0)] [] σ (sw_pI p) := by
  unfold S_X11_upland_128 at h
  cases h
  exact B_X11_upland_128  ⟨_, rfl, rfl, rfl⟩
noncomputable def S_X11_upland_105 (σ : sw_St) : Option (Int32 × sw_St) :=
  if (σ.1 0 5) = 0 then (S_X11_upland_140 (sw_uI (sw_uI σ 0 7 (σ.1 0 5)) 0 8 (σ.1 0 6)) ) else (S_X11_upland_128 (sw_uI (sw_uI σ 0 7 (σ.1 0 5)) 0 8 (σ.1 0 6)) )
theorem SC_X11_upland_105 {E : sw_E} {d : Nat} (hd : 11 ≤ d) {p : Int32 × sw_St} {σ : sw_St} (h : S_X11_upland_105 σ  = some p) : sw_W E sw_gM m_X11_upland d 105 [(0, .ref 0)] [] σ (sw_pI p) := by
  unfold S_X11_upland_105 at h
  refine B_X11_upland_105  (fun hc => ?_) (fun hc => ?_)
  · rw [if_pos hc] at h
    exact SC_X11_upland_140 hd h
  · rw [if_neg hc] at h
    exact SC_X11_upland_128 hd h
noncomputable def S_X11_upland_83 (c83 : sw_St → Option (Int32 × sw_St)) (σ : sw_St) : Option (Int32 × sw_St) :=
  if (σ.1 0 5) = 0 then ((F_X11_look σ ).bind fun q1 => if q1.1 = (-1) then (S_X11_upland_105 q1.2 ) else ((F_X11_statementTold q1.2 ).bind fun q2 => c83 q2.2 )) else (S_X11_upland_105 σ )
theorem SC_X11_upland_83 {E : sw_E} {d : Nat} (hd : 11 ≤ d) {p : Int32 × sw_St} {c83 : sw_St → Option (Int32 × sw_St)} (h83 : ∀ (σ : sw_St), c83 σ  = some p → sw_W E sw_gM m_X11_upland d 83 [(0, .ref 0)] [] σ (sw_pI p)) {σ : sw_St} (h : S_X11_upland_83 c83 σ  = some p) : sw_W E sw_gM m_X11_upland d 83 [(0, .ref 0)] [] σ (sw_pI p) := by
  unfold S_X11_upland_83 at h
  refine B_X11_upland_83  (fun hc => ?_) (fun hc => ?_)
  · rw [if_neg hc] at h
    exact SC_X11_upland_105 hd h
  · rw [if_pos hc] at h
    obtain ⟨q1, hq, h⟩ := sw_bnd h
    refine B_X11_upland_90  (FC_X11_look (Nat.le_refl _) hq) (Nat.lt_of_lt_of_le (by decide) hd) (fun v s hvs => ?_)
    obtain ⟨hv1, hv2⟩ := hvs; subst hv1; subst hv2
    refine B_X11_upland_94  (fun hc => ?_) (fun hc => ?_)
    · rw [if_pos hc] at h
      exact SC_X11_upland_105 hd h
    · rw [if_neg hc] at h
      obtain ⟨q2, hq, h⟩ := sw_bnd h
      refine B_X11_upland_98  (FC_X11_statementTold (Nat.le_refl _) hq) (Nat.lt_of_lt_of_le (by decide) hd) (fun s hvs => ?_)
      subst hvs
      refine B_X11_upland_102  ?_
      exact h83 _  h
noncomputable def L_X11_upland_83 : Nat → sw_St → Option (Int32 × sw_St)
  | 0, _ => none
  | k + 1, σ => S_X11_upland_83 (fun σ => L_X11_upland_83 k σ ) σ 
theorem LC_X11_upland_83 {E : sw_E} {d : Nat} (hd : 11 ≤ d) {p : Int32 × sw_St} : ∀ (k : Nat) (σ : sw_St), L_X11_upland_83 k σ  = some p → sw_W E sw_gM m_X11_upland d 83 [(0, .ref 0)] [] σ (sw_pI p) := by
  intro k
  induction k with
  | zero => intro σ h; cases h
  | succ k ih => intro σ h; exact SC_X11_upland_83 hd ih h
noncomputable def S_X11_upland_60 (c60 : sw_St → Int32 → Option (Int32 × sw_St)) (σ : sw_St) (x1 : Int32) : Option (Int32 × sw_St) :=
  if 3 ≤ x1 then (L_X11_upland_83 sw_fuel (sw_uI σ 0 47 0) ) else (if sw_inb x1 6 = true then (c60 (sw_uI σ 34 x1.toNatClampNeg (-1)) (x1 + 1)) else none)
theorem SC_X11_upland_60 {E : sw_E} {d : Nat} (hd : 11 ≤ d) {p : Int32 × sw_St} {c60 : sw_St → Int32 → Option (Int32 × sw_St)} (h60 : ∀ (σ : sw_St) (x1 : Int32), c60 σ x1 = some p → sw_W E sw_gM m_X11_upland d 60 [(0, .ref 0), (1, .int x1)] [] σ (sw_pI p)) {σ : sw_St} {x1 : Int32} (h : S_X11_upland_60 c60 σ x1 = some p) : sw_W E sw_gM m_X11_upland d 60 [(0, .ref 0), (1, .int x1)] [] σ (sw_pI p) := by
  unfold S_X11_upland_60 at h
  refine B_X11_upland_60  (fun hc => ?_) (fun hc => ?_)
  · rw [if_pos hc] at h
    refine B_X11_upland_78  ?_
    exact LC_X11_upland_83 hd _ _  h
  · rw [if_neg hc] at h
    obtain ⟨o1, h⟩ := sw_ifs h
    refine B_X11_upland_65 (sw_inb_sp o1) ?_
    exact h60 _ _ h
noncomputable def L_X11_upland_60 : Nat → sw_St → Int32 → Option (Int32 × sw_St)
  | 0, _, _ => none
  | k + 1, σ, x1 => S_X11_upland_60 (fun σ x1 => L_X11_upland_60 k σ x1) σ x1
theorem LC_X11_upland_60 {E : sw_E} {d : Nat} (hd : 11 ≤ d) {p : Int32 × sw_St} : ∀ (k : Nat) (σ : sw_St) (x1 : Int32), L_X11_upland_60 k σ x1 = some p → sw_W E sw_gM m_X11_upland d 60 [(0, .ref 0), (1, .int x1)] [] σ (sw_pI p) := by
  intro k
  induction k with
  | zero => intro σ x1 h; cases h
  | succ k ih => intro σ x1 h; exact SC_X11_upland_60 hd ih h
noncomputable def S_X11_upland_40 (c40 : sw_St → Int32 → Option (Int32 × sw_St)) (σ : sw_St) (x1 : Int32) : Option (Int32 × sw_St) :=
  if 4 ≤ x1 then (L_X11_upland_60 sw_fuel σ 0) else (if sw_inb x1 8 = true then (c40 (sw_uI σ 28 x1.toNatClampNeg 0) (x1 + 1)) else none)
theorem SC_X11_upland_40 {E : sw_E} {d : Nat} (hd : 11 ≤ d) {p : Int32 × sw_St} {c40 : sw_St → Int32 → Option (Int32 × sw_St)} (h40 : ∀ (σ : sw_St) (x1 : Int32), c40 σ x1 = some p → sw_W E sw_gM m_X11_upland d 40 [(0, .ref 0), (1, .int x1)] [] σ (sw_pI p)) {σ : sw_St} {x1 : Int32} (h : S_X11_upland_40 c40 σ x1 = some p) : sw_W E sw_gM m_X11_upland d 40 [(0, .ref 0), (1, .int x1)] [] σ (sw_pI p) := by
  unfold S_X11_upland_40 at h
  refine B_X11_upland_40  (fun hc => ?_) (fun hc => ?_)
  · rw [if_pos hc] at h
    refine B_X11_upland_58  ?_
    exact LC_X11_upland_60 hd _ _ _ h
  · rw [if_neg hc] at h
    obtain ⟨o1, h⟩ := sw_ifs h
    refine B_X11_upland_45 (sw_inb_sp o1) ?_
    exact h40 _ _ h
noncomputable def L_X11_upland_40 : Nat → sw_St → Int32 → Option (Int32 × sw_St)
  | 0, _, _ => none
  | k + 1, σ, x1 => S_X11_upland_40 (fun σ x1 => L_X11_upland_40 k σ x1) σ x1
theorem LC_X11_upland_40 {E : sw_E} {d : Nat} (hd : 11 ≤ d) {p : Int32 × sw_St} : ∀ (k : Nat) (σ : sw_St) (x1 : Int32), L_X11_upland_40 k σ x1 = some p → sw_W E sw_gM m_X11_upland d 40 [(0, .ref 0), (1, .int x1)] [] σ (sw_pI p) := by
  intro k
  induction k with
  | zero => intro σ x1 h; cases h
  | succ k ih => intro σ x1 h; exact SC_X11_upland_40 hd ih h
noncomputable def F_X11_upland (σ : sw_St) : Option (Int32 × sw_St) :=
  L_X11_upland_40 sw_fuel (sw_uI (sw_uI (sw_uI (sw_uI (sw_uI (sw_uI (sw_uI σ 0 3 (σ.1 0 1)) 0 1 0) 0 2 0) 0 4 (-1)) 0 5 0) 0 6 (-1)) 0 46 0) 0
theorem FC_X11_upland {E : sw_E} {d : Nat} (hd : 11 ≤ d) {p : Int32 × sw_St} {σ : sw_St} (h : F_X11_upland σ  = some p) : sw_KI E sw_gM m_X11_upland d [.ref 0] σ (fun v s => v = p.1 ∧ s = p.2) := by
  unfold F_X11_upland at h
  refine sw_K.of (by decide +kernel) rfl (Nat.le_of_ble_eq_true rfl) ?_
  show sw_W E sw_gM m_X11_upland d 0 [(0, .ref 0)] [] σ (sw_pI p)
  refine B_X11_upland_0  ?_
  exact LC_X11_upland_40 hd _ _ _ h

/-! StrayWoolModel.refuses(I)I -/
noncomputable def F_X11_refuses (σ : sw_St) (x1 : Int32) : Option (Int32 × sw_St) :=
  if sw_inb x1 6 = true then (if sw_inb x1 6 = true then (some ((-1), (sw_uI σ 2 x1.toNatClampNeg ((σ.1 2 x1.toNatClampNeg) + 1)))) else none) else none
theorem FC_X11_refuses {E : sw_E} {d : Nat} (hd : 0 ≤ d) {p : Int32 × sw_St} {σ : sw_St} {x1 : Int32} (h : F_X11_refuses σ x1 = some p) : sw_KI E sw_gM m_X11_refuses d [.ref 0, .int x1] σ (fun v s => v = p.1 ∧ s = p.2) := by
  unfold F_X11_refuses at h
  refine sw_K.of (by decide +kernel) rfl (Nat.le_of_ble_eq_true rfl) ?_
  show sw_W E sw_gM m_X11_refuses d 0 [(0, .ref 0), (1, .int x1)] [] σ (sw_pI p)
  obtain ⟨o1, h⟩ := sw_ifs h
  obtain ⟨o2, h⟩ := sw_ifs h
  cases h
  exact B_X11_refuses_0 (sw_inb_sp o1) (sw_inb_sp o2) ⟨_, rfl, rfl, rfl⟩
/-! StrayWoolModel.feel()I -/
noncomputable def S_X11_feel_108 (c108 : sw_St → Int32 → Int32 → Option (Int32 × sw_St)) (σ : sw_St) (x1 : Int32) (x3 : Int32) : Option (Int32 × sw_St) :=
  if x1 ≤ x3 then (some (x1 / 3, (sw_uI σ 0 63 (x1 / 3)))) else (if sw_inb x3 1600 = true then (if sw_inb x3 48 = true then (c108 (sw_uI σ 44 x3.toNatClampNeg (σ.1 1 x3.toNatClampNeg)) x1 (x3 + 1)) else none) else none)
theorem SC_X11_feel_108 {E : sw_E} {d : Nat} (hd : 2 ≤ d) {p : Int32 × sw_St} {c108 : sw_St → Int32 → Int32 → Option (Int32 × sw_St)} (h108 : ∀ (σ : sw_St) (x1 : Int32) (x3 : Int32), c108 σ x1 x3 = some p → sw_W E sw_gM m_X11_feel d 108 [(0, .ref 0), (1, .int x1), (3, .int x3)] [] σ (sw_pI p)) {σ : sw_St} {x1 : Int32} {x3 : Int32} (h : S_X11_feel_108 c108 σ x1 x3 = some p) : sw_W E sw_gM m_X11_feel d 108 [(0, .ref 0), (1, .int x1), (3, .int x3)] [] σ (sw_pI p) := by
  unfold S_X11_feel_108 at h
  refine B_X11_feel_108  (fun hc => ?_) (fun hc => ?_)
  · rw [if_pos hc] at h
    cases h
    exact B_X11_feel_131  ⟨_, rfl, rfl, rfl⟩
  · rw [if_neg hc] at h
    obtain ⟨o1, h⟩ := sw_ifs h
    obtain ⟨o2, h⟩ := sw_ifs h
    refine B_X11_feel_113 (sw_inb_sp o1) (sw_inb_sp o2) ?_
    exact h108 _ _ _ h
noncomputable def L_X11_feel_108 : Nat → sw_St → Int32 → Int32 → Option (Int32 × sw_St)
  | 0, _, _, _ => none
  | k + 1, σ, x1, x3 => S_X11_feel_108 (fun σ x1 x3 => L_X11_feel_108 k σ x1 x3) σ x1 x3
theorem LC_X11_feel_108 {E : sw_E} {d : Nat} (hd : 2 ≤ d) {p : Int32 × sw_St} : ∀ (k : Nat) (σ : sw_St) (x1 : Int32) (x3 : Int32), L_X11_feel_108 k σ x1 x3 = some p → sw_W E sw_gM m_X11_feel d 108 [(0, .ref 0), (1, .int x1), (3, .int x3)] [] σ (sw_pI p) := by
  intro k
  induction k with
  | zero => intro σ x1 x3 h; cases h
  | succ k ih => intro σ x1 x3 h; exact SC_X11_feel_108 hd ih h
noncomputable def S_X11_feel_96 (σ : sw_St) (x1 : Int32) (x2 : Int32) : Option (Int32 × sw_St) :=
  if x2 = 0 then ((F_X11_refuses σ 1).bind fun q1 => some (q1.1, q1.2)) else (L_X11_feel_108 sw_fuel σ x1 0)
theorem SC_X11_feel_96 {E : sw_E} {d : Nat} (hd : 2 ≤ d) {p : Int32 × sw_St} {σ : sw_St} {x1 : Int32} {x2 : Int32} (h : S_X11_feel_96 σ x1 x2 = some p) : sw_W E sw_gM m_X11_feel d 96 [(0, .ref 0), (1, .int x1), (2, .int x2)] [] σ (sw_pI p) := by
  unfold S_X11_feel_96 at h
  refine B_X11_feel_96  (fun hc => ?_) (fun hc => ?_)
  · rw [if_neg hc] at h
    refine B_X11_feel_106  ?_
    exact LC_X11_feel_108 hd _ _ _ _ h
  · rw [if_pos hc] at h
    obtain ⟨q1, hq, h⟩ := sw_bnd h
    refine B_X11_feel_100  (FC_X11_refuses (Nat.le_refl _) hq) (Nat.lt_of_lt_of_le (by decide) hd) (fun v s hvs => ?_)
    obtain ⟨hv1, hv2⟩ := hvs; subst hv1; subst hv2
    cases h
    exact B_X11_feel_105  ⟨_, rfl, rfl, rfl⟩
noncomputable def S_X11_feel_89 (c36 : sw_St → Int32 → Int32 → Int32 → Option (Int32 × sw_St)) (σ : sw_St) (x1 : Int32) (x3 : Int32) (sx0 : Int32) : Option (Int32 × sw_St) :=
  c36 σ x1 sx0 (x3 + 3)
theorem SC_X11_feel_89 {E : sw_E} {d : Nat} (hd : 2 ≤ d) {p : Int32 × sw_St} {c36 : sw_St → Int32 → Int32 → Int32 → Option (Int32 × sw_St)} (h36 : ∀ (σ : sw_St) (x1 : Int32) (x2 : Int32) (x3 : Int32), c36 σ x1 x2 x3 = some p → sw_W E sw_gM m_X11_feel d 36 [(0, .ref 0), (1, .int x1), (2, .int x2), (3, .int x3)] [] σ (sw_pI p)) {σ : sw_St} {x1 : Int32} {x3 : Int32} {sx0 : Int32} (h : S_X11_feel_89 c36 σ x1 x3 sx0 = some p) : sw_W E sw_gM m_X11_feel d 89 [(0, .ref 0), (1, .int x1), (3, .int x3)] [.int sx0] σ (sw_pI p) := by
  unfold S_X11_feel_89 at h
  refine B_X11_feel_89  ?_
  exact h36 _ _ _ _ h
noncomputable def S_X11_feel_88 (c36 : sw_St → Int32 → Int32 → Int32 → Option (Int32 × sw_St)) (σ : sw_St) (x1 : Int32) (x3 : Int32) : Option (Int32 × sw_St) :=
  S_X11_feel_89 c36 σ x1 x3 0
theorem SC_X11_feel_88 {E : sw_E} {d : Nat} (hd : 2 ≤ d) {p : Int32 × sw_St} {c36 : sw_St → Int32 → Int32 → Int32 → Option (Int32 × sw_St)} (h36 : ∀ (σ : sw_St) (x1 : Int32) (x2 : Int32) (x3 : Int32), c36 σ x1 x2 x3 = some p → sw_W E sw_gM m_X11_feel d 36 [(0, .ref 0), (1, .int x1), (2, .int x2), (3, .int x3)] [] σ (sw_pI p)) {σ : sw_St} {x1 : Int32} {x3 : Int32} (h : S_X11_feel_88 c36 σ x1 x3 = some p) : sw_W E sw_gM m_X11_feel d 88 [(0, .ref 0), (1, .int x1), (3, .int x3)] [] σ (sw_pI p) := by
  unfold S_X11_feel_88 at h
  refine B_X11_feel_88  ?_
  exact SC_X11_feel_89 hd h36 h
noncomputable def S_X11_feel_36 (c36 : sw_St → Int32 → Int32 → Int32 → Option (Int32 × sw_St)) (σ : sw_St) (x1 : Int32) (x2 : Int32) (x3 : Int32) : Option (Int32 × sw_St) :=
  if x1 ≤ x3 then (S_X11_feel_96 σ x1 x2) else (if x2 = 0 then (S_X11_feel_96 σ x1 x2) else (if sw_inb x3 1600 = true then (if 30 < (σ.1 1 x3.toNatClampNeg) then (S_X11_feel_88 c36 σ x1 x3) else (if sw_inb (x3 + 1) 1600 = true then ((F_X11_isSheep σ (σ.1 1 ((x3 + 1).toNatClampNeg))).bind fun q3 => if q3.1 = 0 then (S_X11_feel_88 c36 q3.2 x1 x3) else (if sw_inb (x3 + 2) 1600 = true then (if 64 ≤ (q3.2.1 1 ((x3 + 2).toNatClampNeg)) then (S_X11_feel_88 c36 q3.2 x1 x3) else (S_X11_feel_89 c36 q3.2 x1 x3 1)) else none)) else none)) else none))
theorem SC_X11_feel_36 {E : sw_E} {d : Nat} (hd : 2 ≤ d) {p : Int32 × sw_St} {c36 : sw_St → Int32 → Int32 → Int32 → Option (Int32 × sw_St)} (h36 : ∀ (σ : sw_St) (x1 : Int32) (x2 : Int32) (x3 : Int32), c36 σ x1 x2 x3 = some p → sw_W E sw_gM m_X11_feel d 36 [(0, .ref 0), (1, .int x1), (2, .int x2), (3, .int x3)] [] σ (sw_pI p)) {σ : sw_St} {x1 : Int32} {x2 : Int32} {x3 : Int32} (h : S_X11_feel_36 c36 σ x1 x2 x3 = some p) : sw_W E sw_gM m_X11_feel d 36 [(0, .ref 0), (1, .int x1), (2, .int x2), (3, .int x3)] [] σ (sw_pI p) := by
  unfold S_X11_feel_36 at h
  refine B_X11_feel_36  (fun hc => ?_) (fun hc => ?_)
  · rw [if_pos hc] at h
    exact SC_X11_feel_96 hd h
  · rw [if_neg hc] at h
    refine B_X11_feel_41  (fun hc => ?_) (fun hc => ?_)
    · rw [if_pos hc] at h
      exact SC_X11_feel_96 hd h
    · rw [if_neg hc] at h
      obtain ⟨o1, h⟩ := sw_ifs h
      refine B_X11_feel_45 (sw_inb_sp o1) (fun hc => ?_) (fun hc => ?_)
      · rw [if_pos hc] at h
        exact SC_X11_feel_88 hd h36 h
      · rw [if_neg hc] at h
        obtain ⟨o2, h⟩ := sw_ifs h
        obtain ⟨q3, hq, h⟩ := sw_bnd h
        refine B_X11_feel_56 (sw_inb_sp o2) (FC_X11_isSheep (Nat.le_refl _) hq) (Nat.lt_of_lt_of_le (by decide) hd) (fun v s hvs => ?_)
        obtain ⟨hv1, hv2⟩ := hvs; subst hv1; subst hv2
        refine B_X11_feel_68  (fun hc => ?_) (fun hc => ?_)
        · rw [if_pos hc] at h
          exact SC_X11_feel_88 hd h36 h
        · rw [if_neg hc] at h
          obtain ⟨o4, h⟩ := sw_ifs h
          refine B_X11_feel_71 (sw_inb_sp o4) (fun hc => ?_) (fun hc => ?_)
          · rw [if_pos hc] at h
            exact SC_X11_feel_88 hd h36 h
          · rw [if_neg hc] at h
            refine B_X11_feel_84  ?_
            exact SC_X11_feel_89 hd h36 h
noncomputable def L_X11_feel_36 : Nat → sw_St → Int32 → Int32 → Int32 → Option (Int32 × sw_St)
  | 0, _, _, _, _ => none
  | k + 1, σ, x1, x2, x3 => S_X11_feel_36 (fun σ x1 x2 x3 => L_X11_feel_36 k σ x1 x2 x3) σ x1 x2 x3
theorem LC_X11_feel_36 {E : sw_E} {d : Nat} (hd : 2 ≤ d) {p : Int32 × sw_St} : ∀ (k : Nat) (σ : sw_St) (x1 : Int32) (x2 : Int32) (x3 : Int32), L_X11_feel_36 k σ x1 x2 x3 = some p → sw_W E sw_gM m_X11_feel d 36 [(0, .ref 0), (1, .int x1), (2, .int x2), (3, .int x3)] [] σ (sw_pI p) := by
  intro k
  induction k with
  | zero => intro σ x1 x2 x3 h; cases h
  | succ k ih => intro σ x1 x2 x3 h; exact SC_X11_feel_36 hd ih h
noncomputable def S_X11_feel_33 (σ : sw_St) (x1 : Int32) (sx0 : Int32) : Option (Int32 × sw_St) :=
  L_X11_feel_36 sw_fuel σ x1 sx0 0
theorem SC_X11_feel_33 {E : sw_E} {d : Nat} (hd : 2 ≤ d) {p : Int32 × sw_St} {σ : sw_St} {x1 : Int32} {sx0 : Int32} (h : S_X11_feel_33 σ x1 sx0 = some p) : sw_W E sw_gM m_X11_feel d 33 [(0, .ref 0), (1, .int x1)] [.int sx0] σ (sw_pI p) := by
  unfold S_X11_feel_33 at h
  refine B_X11_feel_33  ?_
  exact LC_X11_feel_36 hd _ _ _ _ _ h
noncomputable def S_X11_feel_32 (σ : sw_St) (x1 : Int32) : Option (Int32 × sw_St) :=
  S_X11_feel_33 σ x1 0
theorem SC_X11_feel_32 {E : sw_E} {d : Nat} (hd : 2 ≤ d) {p : Int32 × sw_St} {σ : sw_St} {x1 : Int32} (h : S_X11_feel_32 σ x1 = some p) : sw_W E sw_gM m_X11_feel d 32 [(0, .ref 0), (1, .int x1)] [] σ (sw_pI p) := by
  unfold S_X11_feel_32 at h
  refine B_X11_feel_32  ?_
  exact SC_X11_feel_33 hd h
noncomputable def S_X11_feel_14 (σ : sw_St) (x1 : Int32) : Option (Int32 × sw_St) :=
  if (x1 - x1 / 3 * 3) = 0 then (if 16 < (x1 / 3) then (S_X11_feel_32 σ x1) else (S_X11_feel_33 σ x1 1)) else (S_X11_feel_32 σ x1)
theorem SC_X11_feel_14 {E : sw_E} {d : Nat} (hd : 2 ≤ d) {p : Int32 × sw_St} {σ : sw_St} {x1 : Int32} (h : S_X11_feel_14 σ x1 = some p) : sw_W E sw_gM m_X11_feel d 14 [(0, .ref 0), (1, .int x1)] [] σ (sw_pI p) := by
  unfold S_X11_feel_14 at h
  refine B_X11_feel_14  (fun hc => ?_) (fun hc => ?_)
  · rw [if_neg hc] at h
    exact SC_X11_feel_32 hd h
  · rw [if_pos hc] at h
    refine B_X11_feel_20  (fun hc => ?_) (fun hc => ?_)
    · rw [if_pos hc] at h
      exact SC_X11_feel_32 hd h
    · rw [if_neg hc] at h
      refine B_X11_feel_28  ?_
      exact SC_X11_feel_33 hd h
noncomputable def F_X11_feel (σ : sw_St) : Option (Int32 × sw_St) :=
  if (σ.1 0 1) ≤ 0 then (S_X11_feel_32 (sw_uI σ 0 1 0) (σ.1 0 1)) else (S_X11_feel_14 (sw_uI σ 0 1 0) (σ.1 0 1))
theorem FC_X11_feel {E : sw_E} {d : Nat} (hd : 2 ≤ d) {p : Int32 × sw_St} {σ : sw_St} (h : F_X11_feel σ  = some p) : sw_KI E sw_gM m_X11_feel d [.ref 0] σ (fun v s => v = p.1 ∧ s = p.2) := by
  unfold F_X11_feel at h
  refine sw_K.of (by decide +kernel) rfl (Nat.le_of_ble_eq_true rfl) ?_
  show sw_W E sw_gM m_X11_feel d 0 [(0, .ref 0)] [] σ (sw_pI p)
  refine B_X11_feel_0  (fun hc => ?_) (fun hc => ?_)
  · rw [if_pos hc] at h
    exact SC_X11_feel_32 hd h
  · rw [if_neg hc] at h
    exact SC_X11_feel_14 hd h
/-! StrayWoolModel.isAsFelt(I)Z -/
noncomputable def S_X11_isAsFelt_63 (c2 : sw_St → Int32 → Int32 → Option (Int32 × sw_St)) (σ : sw_St) (x1 : Int32) (x2 : Int32) : Option (Int32 × sw_St) :=
  c2 σ x1 (x2 + 1)
theorem SC_X11_isAsFelt_63 {E : sw_E} {d : Nat} (hd : 1 ≤ d) {p : Int32 × sw_St} {c2 : sw_St → Int32 → Int32 → Option (Int32 × sw_St)} (h2 : ∀ (σ : sw_St) (x1 : Int32) (x2 : Int32), c2 σ x1 x2 = some p → sw_W E sw_gM m_X11_isAsFelt d 2 [(0, .ref 0), (1, .int x1), (2, .int x2)] [] σ (sw_pI p)) {σ : sw_St} {x1 : Int32} {x2 : Int32} (h : S_X11_isAsFelt_63 c2 σ x1 x2 = some p) : sw_W E sw_gM m_X11_isAsFelt d 63 [(0, .ref 0), (1, .int x1), (2, .int x2)] [] σ (sw_pI p) := by
  unfold S_X11_isAsFelt_63 at h
  refine B_X11_isAsFelt_63  ?_
  exact h2 _ _ _ h
noncomputable def S_X11_isAsFelt_61 (σ : sw_St) : Option (Int32 × sw_St) :=
  some (0, σ)
theorem SC_X11_isAsFelt_61 {E : sw_E} {d : Nat} (hd : 1 ≤ d) {p : Int32 × sw_St} {σ : sw_St} (h : S_X11_isAsFelt_61 σ  = some p) : sw_W E sw_gM m_X11_isAsFelt d 61 [] [] σ (sw_pI p) := by
  unfold S_X11_isAsFelt_61 at h
  cases h
  exact B_X11_isAsFelt_61  ⟨_, rfl, rfl, rfl⟩
noncomputable def S_X11_isAsFelt_2 (c2 : sw_St → Int32 → Int32 → Option (Int32 × sw_St)) (σ : sw_St) (x1 : Int32) (x2 : Int32) : Option (Int32 × sw_St) :=
  if (σ.1 0 63) ≤ x2 then (some (1, σ)) else (if sw_inb (3 * x2) 48 = true then (if (σ.1 44 ((3 * x2).toNatClampNeg)) = x1 then (if 999 < (σ.1 37 0) then (S_X11_isAsFelt_61 σ ) else (if sw_inb ((3 * x2) + 1) 48 = true then ((F_X11_crimpOf σ (σ.1 44 (((3 * x2) + 1).toNatClampNeg))).bind fun q3 => if sw_inb ((3 * x2) + 2) 48 = true then (if q3.1 = (q3.2.1 44 (((3 * x2) + 2).toNatClampNeg)) then (S_X11_isAsFelt_63 c2 q3.2 x1 x2) else (S_X11_isAsFelt_61 q3.2 )) else none) else none)) else (S_X11_isAsFelt_63 c2 σ x1 x2)) else none)
theorem SC_X11_isAsFelt_2 {E : sw_E} {d : Nat} (hd : 1 ≤ d) {p : Int32 × sw_St} {c2 : sw_St → Int32 → Int32 → Option (Int32 × sw_St)} (h2 : ∀ (σ : sw_St) (x1 : Int32) (x2 : Int32), c2 σ x1 x2 = some p → sw_W E sw_gM m_X11_isAsFelt d 2 [(0, .ref 0), (1, .int x1), (2, .int x2)] [] σ (sw_pI p)) {σ : sw_St} {x1 : Int32} {x2 : Int32} (h : S_X11_isAsFelt_2 c2 σ x1 x2 = some p) : sw_W E sw_gM m_X11_isAsFelt d 2 [(0, .ref 0), (1, .int x1), (2, .int x2)] [] σ (sw_pI p) := by
  unfold S_X11_isAsFelt_2 at h
  refine B_X11_isAsFelt_2  (fun hc => ?_) (fun hc => ?_)
  · rw [if_pos hc] at h
    cases h
    exact B_X11_isAsFelt_69  ⟨_, rfl, rfl, rfl⟩
  · rw [if_neg hc] at h
    obtain ⟨o1, h⟩ := sw_ifs h
    refine B_X11_isAsFelt_10 (sw_inb_sp o1) (fun hc => ?_) (fun hc => ?_)
    · rw [if_neg hc] at h
      exact SC_X11_isAsFelt_63 hd h2 h
    · rw [if_pos hc] at h
      refine B_X11_isAsFelt_22  (fun hc => ?_) (fun hc => ?_)
      · rw [if_pos hc] at h
        exact SC_X11_isAsFelt_61 hd h
      · rw [if_neg hc] at h
        obtain ⟨o2, h⟩ := sw_ifs h
        obtain ⟨q3, hq, h⟩ := sw_bnd h
        refine B_X11_isAsFelt_34 (sw_inb_sp o2) (FC_X11_crimpOf (Nat.le_refl _) hq) (Nat.lt_of_lt_of_le (by decide) hd) (fun v s hvs => ?_)
        obtain ⟨hv1, hv2⟩ := hvs; subst hv1; subst hv2
        obtain ⟨o4, h⟩ := sw_ifs h
        refine B_X11_isAsFelt_48 (sw_inb_sp o4) (fun hc => ?_) (fun hc => ?_)
        · rw [if_pos hc] at h
          exact SC_X11_isAsFelt_63 hd h2 h
        · rw [if_neg hc] at h
          exact SC_X11_isAsFelt_61 hd h
noncomputable def L_X11_isAsFelt_2 : Nat → sw_St → Int32 → Int32 → Option (Int32 × sw_St)
  | 0, _, _, _ => none
  | k + 1, σ, x1, x2 => S_X11_isAsFelt_2 (fun σ x1 x2 => L_X11_isAsFelt_2 k σ x1 x2) σ x1 x2
theorem LC_X11_isAsFelt_2 {E : sw_E} {d : Nat} (hd : 1 ≤ d) {p : Int32 × sw_St} : ∀ (k : Nat) (σ : sw_St) (x1 : Int32) (x2 : Int32), L_X11_isAsFelt_2 k σ x1 x2 = some p → sw_W E sw_gM m_X11_isAsFelt d 2 [(0, .ref 0), (1, .int x1), (2, .int x2)] [] σ (sw_pI p) := by
  intro k
  induction k with
  | zero => intro σ x1 x2 h; cases h
  | succ k ih => intro σ x1 x2 h; exact SC_X11_isAsFelt_2 hd ih h
noncomputable def F_X11_isAsFelt (σ : sw_St) (x1 : Int32) : Option (Int32 × sw_St) :=
  L_X11_isAsFelt_2 sw_fuel σ x1 0
theorem FC_X11_isAsFelt {E : sw_E} {d : Nat} (hd : 1 ≤ d) {p : Int32 × sw_St} {σ : sw_St} {x1 : Int32} (h : F_X11_isAsFelt σ x1 = some p) : sw_KI E sw_gM m_X11_isAsFelt d [.ref 0, .int x1] σ (fun v s => v = p.1 ∧ s = p.2) := by
  unfold F_X11_isAsFelt at h
  refine sw_K.of (by decide +kernel) rfl (Nat.le_of_ble_eq_true rfl) ?_
  show sw_W E sw_gM m_X11_isAsFelt d 0 [(0, .ref 0), (1, .int x1)] [] σ (sw_pI p)
  refine B_X11_isAsFelt_0  ?_
  exact LC_X11_isAsFelt_2 hd _ _ _ _ h
/-! StrayWoolModel.mostAlike(II)I -/
noncomputable def S_X11_mostAlike_94 (c5 : sw_St → Int32 → Int32 → Int32 → Int32 → Option (Int32 × sw_St)) (σ : sw_St) (x1 : Int32) (x2 : Int32) (x3 : Int32) (x4 : Int32) : Option (Int32 × sw_St) :=
  c5 σ x1 x2 x3 (x4 + 1)
theorem SC_X11_mostAlike_94 {E : sw_E} {d : Nat} (hd : 0 ≤ d) {p : Int32 × sw_St} {c5 : sw_St → Int32 → Int32 → Int32 → Int32 → Option (Int32 × sw_St)} (h5 : ∀ (σ : sw_St) (x1 : Int32) (x2 : Int32) (x3 : Int32) (x4 : Int32), c5 σ x1 x2 x3 x4 = some p → sw_W E sw_gM m_X11_mostAlike d 5 [(0, .ref 0), (1, .int x1), (2, .int x2), (3, .int x3), (4, .int x4)] [] σ (sw_pI p)) {σ : sw_St} {x1 : Int32} {x2 : Int32} {x3 : Int32} {x4 : Int32} (h : S_X11_mostAlike_94 c5 σ x1 x2 x3 x4 = some p) : sw_W E sw_gM m_X11_mostAlike d 94 [(0, .ref 0), (1, .int x1), (2, .int x2), (3, .int x3), (4, .int x4)] [] σ (sw_pI p) := by
  unfold S_X11_mostAlike_94 at h
  refine B_X11_mostAlike_94  ?_
  exact h5 _ _ _ _ _ h
noncomputable def S_X11_mostAlike_79 (c5 : sw_St → Int32 → Int32 → Int32 → Int32 → Option (Int32 × sw_St)) (c30 : sw_St → Int32 → Int32 → Int32 → Int32 → Int32 → Int32 → Option (Int32 × sw_St)) (σ : sw_St) (x1 : Int32) (x2 : Int32) (x3 : Int32) (x4 : Int32) (x5 : Int32) (x6 : Int32) : Option (Int32 × sw_St) :=
  c30 σ x1 x2 x3 x4 x5 (x6 + 1)
theorem SC_X11_mostAlike_79 {E : sw_E} {d : Nat} (hd : 0 ≤ d) {p : Int32 × sw_St} {c5 : sw_St → Int32 → Int32 → Int32 → Int32 → Option (Int32 × sw_St)} {c30 : sw_St → Int32 → Int32 → Int32 → Int32 → Int32 → Int32 → Option (Int32 × sw_St)} (h5 : ∀ (σ : sw_St) (x1 : Int32) (x2 : Int32) (x3 : Int32) (x4 : Int32), c5 σ x1 x2 x3 x4 = some p → sw_W E sw_gM m_X11_mostAlike d 5 [(0, .ref 0), (1, .int x1), (2, .int x2), (3, .int x3), (4, .int x4)] [] σ (sw_pI p)) (h30 : ∀ (σ : sw_St) (x1 : Int32) (x2 : Int32) (x3 : Int32) (x4 : Int32) (x5 : Int32) (x6 : Int32), c30 σ x1 x2 x3 x4 x5 x6 = some p → sw_W E sw_gM m_X11_mostAlike d 30 [(0, .ref 0), (1, .int x1), (2, .int x2), (3, .int x3), (4, .int x4), (5, .int x5), (6, .int x6)] [] σ (sw_pI p)) {σ : sw_St} {x1 : Int32} {x2 : Int32} {x3 : Int32} {x4 : Int32} {x5 : Int32} {x6 : Int32} (h : S_X11_mostAlike_79 c5 c30 σ x1 x2 x3 x4 x5 x6 = some p) : sw_W E sw_gM m_X11_mostAlike d 79 [(0, .ref 0), (1, .int x1), (2, .int x2), (3, .int x3), (4, .int x4), (5, .int x5), (6, .int x6)] [] σ (sw_pI p) := by
  unfold S_X11_mostAlike_79 at h
  refine B_X11_mostAlike_79  ?_
  exact h30 _ _ _ _ _ _ _ h
noncomputable def S_X11_mostAlike_30 (c5 : sw_St → Int32 → Int32 → Int32 → Int32 → Option (Int32 × sw_St)) (c30 : sw_St → Int32 → Int32 → Int32 → Int32 → Int32 → Int32 → Option (Int32 × sw_St)) (σ : sw_St) (x1 : Int32) (x2 : Int32) (x3 : Int32) (x4 : Int32) (x5 : Int32) (x6 : Int32) : Option (Int32 × sw_St) :=
  if 9 < x6 then (if x5 ≤ x3 then (S_X11_mostAlike_94 c5 σ x1 x2 x3 x4) else (S_X11_mostAlike_94 c5 σ x1 x2 x5 x4)) else (if ((x1 >>> (x6 &&& 31)) &&& 1) = 1 then (if sw_inb ((186 * x4) + x2) 1860 = true then (if sw_inb ((186 * x6) + x2) 1860 = true then (if (σ.1 45 (((186 * x4) + x2).toNatClampNeg)) = (σ.1 45 (((186 * x6) + x2).toNatClampNeg)) then (S_X11_mostAlike_79 c5 c30 σ x1 x2 x3 x4 (x5 + 1) x6) else (S_X11_mostAlike_79 c5 c30 σ x1 x2 x3 x4 x5 x6)) else none) else none) else (S_X11_mostAlike_79 c5 c30 σ x1 x2 x3 x4 x5 x6))
theorem SC_X11_mostAlike_30 {E : sw_E} {d : Nat} (hd : 0 ≤ d) {p : Int32 × sw_St} {c5 : sw_St → Int32 → Int32 → Int32 → Int32 → Option (Int32 × sw_St)} {c30 : sw_St → Int32 → Int32 → Int32 → Int32 → Int32 → Int32 → Option (Int32 × sw_St)} (h5 : ∀ (σ : sw_St) (x1 : Int32) (x2 : Int32) (x3 : Int32) (x4 : Int32), c5 σ x1 x2 x3 x4 = some p → sw_W E sw_gM m_X11_mostAlike d 5 [(0, .ref 0), (1, .int x1), (2, .int x2), (3, .int x3), (4, .int x4)] [] σ (sw_pI p)) (h30 : ∀ (σ : sw_St) (x1 : Int32) (x2 : Int32) (x3 : Int32) (x4 : Int32) (x5 : Int32) (x6 : Int32), c30 σ x1 x2 x3 x4 x5 x6 = some p → sw_W E sw_gM m_X11_mostAlike d 30 [(0, .ref 0), (1, .int x1), (2, .int x2), (3, .int x3), (4, .int x4), (5, .int x5), (6, .int x6)] [] σ (sw_pI p)) {σ : sw_St} {x1 : Int32} {x2 : Int32} {x3 : Int32} {x4 : Int32} {x5 : Int32} {x6 : Int32} (h : S_X11_mostAlike_30 c5 c30 σ x1 x2 x3 x4 x5 x6 = some p) : sw_W E sw_gM m_X11_mostAlike d 30 [(0, .ref 0), (1, .int x1), (2, .int x2), (3, .int x3), (4, .int x4), (5, .int x5), (6, .int x6)] [] σ (sw_pI p) := by
  unfold S_X11_mostAlike_30 at h
  refine B_X11_mostAlike_30  (fun hc => ?_) (fun hc => ?_)
  · rw [if_pos hc] at h
    refine B_X11_mostAlike_85  (fun hc => ?_) (fun hc => ?_)
    · rw [if_pos hc] at h
      exact SC_X11_mostAlike_94 hd h5 h
    · rw [if_neg hc] at h
      refine B_X11_mostAlike_91  ?_
      exact SC_X11_mostAlike_94 hd h5 h
  · rw [if_neg hc] at h
    refine B_X11_mostAlike_37  (fun hc => ?_) (fun hc => ?_)
    · rw [if_neg hc] at h
      exact SC_X11_mostAlike_79 hd h5 h30 h
    · rw [if_pos hc] at h
      obtain ⟨o1, h⟩ := sw_ifs h
      obtain ⟨o2, h⟩ := sw_ifs h
      refine B_X11_mostAlike_47 (sw_inb_sp o1) (sw_inb_sp o2) (fun hc => ?_) (fun hc => ?_)
      · rw [if_neg hc] at h
        exact SC_X11_mostAlike_79 hd h5 h30 h
      · rw [if_pos hc] at h
        refine B_X11_mostAlike_76  ?_
        exact SC_X11_mostAlike_79 hd h5 h30 h
noncomputable def L_X11_mostAlike_30 (c5 : sw_St → Int32 → Int32 → Int32 → Int32 → Option (Int32 × sw_St)) : Nat → sw_St → Int32 → Int32 → Int32 → Int32 → Int32 → Int32 → Option (Int32 × sw_St)
  | 0, _, _, _, _, _, _, _ => none
  | k + 1, σ, x1, x2, x3, x4, x5, x6 => S_X11_mostAlike_30 c5 (fun σ x1 x2 x3 x4 x5 x6 => L_X11_mostAlike_30 c5 k σ x1 x2 x3 x4 x5 x6) σ x1 x2 x3 x4 x5 x6
theorem LC_X11_mostAlike_30 {E : sw_E} {d : Nat} (hd : 0 ≤ d) {p : Int32 × sw_St} {c5 : sw_St → Int32 → Int32 → Int32 → Int32 → Option (Int32 × sw_St)} (h5 : ∀ (σ : sw_St) (x1 : Int32) (x2 : Int32) (x3 : Int32) (x4 : Int32), c5 σ x1 x2 x3 x4 = some p → sw_W E sw_gM m_X11_mostAlike d 5 [(0, .ref 0), (1, .int x1), (2, .int x2), (3, .int x3), (4, .int x4)] [] σ (sw_pI p)) : ∀ (k : Nat) (σ : sw_St) (x1 : Int32) (x2 : Int32) (x3 : Int32) (x4 : Int32) (x5 : Int32) (x6 : Int32), L_X11_mostAlike_30 c5 k σ x1 x2 x3 x4 x5 x6 = some p → sw_W E sw_gM m_X11_mostAlike d 30 [(0, .ref 0), (1, .int x1), (2, .int x2), (3, .int x3), (4, .int x4), (5, .int x5), (6, .int x6)] [] σ (sw_pI p) := by
  intro k
  induction k with
  | zero => intro σ x1 x2 x3 x4 x5 x6 h; cases h
  | succ k ih => intro σ x1 x2 x3 x4 x5 x6 h; exact SC_X11_mostAlike_30 hd h5 ih h
noncomputable def S_X11_mostAlike_5 (c5 : sw_St → Int32 → Int32 → Int32 → Int32 → Option (Int32 × sw_St)) (σ : sw_St) (x1 : Int32) (x2 : Int32) (x3 : Int32) (x4 : Int32) : Option (Int32 × sw_St) :=
  if 9 < x4 then (some (x3, σ)) else (if ((x1 >>> (x4 &&& 31)) &&& 1) = 0 then (S_X11_mostAlike_94 c5 σ x1 x2 x3 x4) else (L_X11_mostAlike_30 c5 sw_fuel σ x1 x2 x3 x4 0 0))
theorem SC_X11_mostAlike_5 {E : sw_E} {d : Nat} (hd : 0 ≤ d) {p : Int32 × sw_St} {c5 : sw_St → Int32 → Int32 → Int32 → Int32 → Option (Int32 × sw_St)} (h5 : ∀ (σ : sw_St) (x1 : Int32) (x2 : Int32) (x3 : Int32) (x4 : Int32), c5 σ x1 x2 x3 x4 = some p → sw_W E sw_gM m_X11_mostAlike d 5 [(0, .ref 0), (1, .int x1), (2, .int x2), (3, .int x3), (4, .int x4)] [] σ (sw_pI p)) {σ : sw_St} {x1 : Int32} {x2 : Int32} {x3 : Int32} {x4 : Int32} (h : S_X11_mostAlike_5 c5 σ x1 x2 x3 x4 = some p) : sw_W E sw_gM m_X11_mostAlike d 5 [(0, .ref 0), (1, .int x1), (2, .int x2), (3, .int x3), (4, .int x4)] [] σ (sw_pI p) := by
  unfold S_X11_mostAlike_5 at h
  refine B_X11_mostAlike_5  (fun hc => ?_) (fun hc => ?_)
  · rw [if_pos hc] at h
    cases h
    exact B_X11_mostAlike_100  ⟨_, rfl, rfl, rfl⟩
  · rw [if_neg hc] at h
    refine B_X11_mostAlike_12  (fun hc => ?_) (fun hc => ?_)
    · rw [if_neg hc] at h
      refine B_X11_mostAlike_24  ?_
      exact LC_X11_mostAlike_30 hd h5 _ _ _ _ _ _ _ _ h
    · rw [if_pos hc] at h
      refine B_X11_mostAlike_21  ?_
      exact SC_X11_mostAlike_94 hd h5 h
noncomputable def L_X11_mostAlike_5 : Nat → sw_St → Int32 → Int32 → Int32 → Int32 → Option (Int32 × sw_St)
  | 0, _, _, _, _, _ => none
  | k + 1, σ, x1, x2, x3, x4 => S_X11_mostAlike_5 (fun σ x1 x2 x3 x4 => L_X11_mostAlike_5 k σ x1 x2 x3 x4) σ x1 x2 x3 x4
theorem LC_X11_mostAlike_5 {E : sw_E} {d : Nat} (hd : 0 ≤ d) {p : Int32 × sw_St} : ∀ (k : Nat) (σ : sw_St) (x1 : Int32) (x2 : Int32) (x3 : Int32) (x4 : Int32), L_X11_mostAlike_5 k σ x1 x2 x3 x4 = some p → sw_W E sw_gM m_X11_mostAlike d 5 [(0, .ref 0), (1, .int x1), (2, .int x2), (3, .int x3), (4, .int x4)] [] σ (sw_pI p) := by
  intro k
  induction k with
  | zero => intro σ x1 x2 x3 x4 h; cases h
  | succ k ih => intro σ x1 x2 x3 x4 h; exact SC_X11_mostAlike_5 hd ih h
noncomputable def F_X11_mostAlike (σ : sw_St) (x1 : Int32) (x2 : Int32) : Option (Int32 × sw_St) :=
  L_X11_mostAlike_5 sw_fuel σ x1 x2 0 0
theorem FC_X11_mostAlike {E : sw_E} {d : Nat} (hd : 0 ≤ d) {p : Int32 × sw_St} {σ : sw_St} {x1 : Int32} {x2 : Int32} (h : F_X11_mostAlike σ x1 x2 = some p) : sw_KI E sw_gM m_X11_mostAlike d [.ref 0, .int x1, .int x2] σ (fun v s => v = p.1 ∧ s = p.2) := by
  unfold F_X11_mostAlike at h
  refine sw_K.of (by decide +kernel) rfl (Nat.le_of_ble_eq_true rfl) ?_
  show sw_W E sw_gM m_X11_mostAlike d 0 [(0, .ref 0), (1, .int x1), (2, .int x2)] [] σ (sw_pI p)
  refine B_X11_mostAlike_0  ?_
  exact LC_X11_mostAlike_5 hd _ _ _ _ _ _ h
/-! StrayWoolModel.keeps()V -/
noncomputable def S_X11_keeps_68 (σ : sw_St) : Option (Unit × sw_St) :=
  some ((), σ)
theorem SC_X11_keeps_68 {E : sw_E} {d : Nat} (hd : 0 ≤ d) {p : Unit × sw_St} {σ : sw_St} (h : S_X11_keeps_68 σ  = some p) : sw_W E sw_gM m_X11_keeps d 68 [] [] σ (sw_pV p) := by
  unfold S_X11_keeps_68 at h
  cases h
  exact B_X11_keeps_68  ⟨rfl, rfl⟩
noncomputable def S_X11_keeps_15 (c15 : sw_St → Int32 → Option (Unit × sw_St)) (σ : sw_St) (x1 : Int32) : Option (Unit × sw_St) :=
  if 245 ≤ x1 then (if 20 ≤ (σ.1 0 67) then (S_X11_keeps_68 σ ) else (S_X11_keeps_68 (sw_uI σ 0 67 ((σ.1 0 67) + 1)) )) else (if sw_inb x1 245 = true then (if sw_inb ((245 * (σ.1 0 68)) + x1) 4900 = true then (c15 (sw_uI σ 46 (((245 * (σ.1 0 68)) + x1).toNatClampNeg) (σ.1 37 x1.toNatClampNeg)) (x1 + 1)) else none) else none)
theorem SC_X11_keeps_15 {E : sw_E} {d : Nat} (hd : 0 ≤ d) {p : Unit × sw_St} {c15 : sw_St → Int32 → Option (Unit × sw_St)} (h15 : ∀ (σ : sw_St) (x1 : Int32), c15 σ x1 = some p → sw_W E sw_gM m_X11_keeps d 15 [(0, .ref 0), (1, .int x1)] [] σ (sw_pV p)) {σ : sw_St} {x1 : Int32} (h : S_X11_keeps_15 c15 σ x1 = some p) : sw_W E sw_gM m_X11_keeps d 15 [(0, .ref 0), (1, .int x1)] [] σ (sw_pV p) := by
  unfold S_X11_keeps_15 at h
  refine B_X11_keeps_15  (fun hc => ?_) (fun hc => ?_)
  · rw [if_pos hc] at h
    refine B_X11_keeps_49  (fun hc => ?_) (fun hc => ?_)
    · rw [if_pos hc] at h
      exact SC_X11_keeps_68 hd h
    · rw [if_neg hc] at h
      refine B_X11_keeps_58  ?_
      exact SC_X11_keeps_68 hd h
  · rw [if_neg hc] at h
    obtain ⟨o1, h⟩ := sw_ifs h
    obtain ⟨o2, h⟩ := sw_ifs h
    refine B_X11_keeps_22 (sw_inb_sp o1) (sw_inb_sp o2) ?_
    exact h15 _ _ h
noncomputable def L_X11_keeps_15 : Nat → sw_St → Int32 → Option (Unit × sw_St)
  | 0, _, _ => none
  | k + 1, σ, x1 => S_X11_keeps_15 (fun σ x1 => L_X11_keeps_15 k σ x1) σ x1
theorem LC_X11_keeps_15 {E : sw_E} {d : Nat} (hd : 0 ≤ d) {p : Unit × sw_St} : ∀ (k : Nat) (σ : sw_St) (x1 : Int32), L_X11_keeps_15 k σ x1 = some p → sw_W E sw_gM m_X11_keeps d 15 [(0, .ref 0), (1, .int x1)] [] σ (sw_pV p) := by
  intro k
  induction k with
  | zero => intro σ x1 h; cases h
  | succ k ih => intro σ x1 h; exact SC_X11_keeps_15 hd ih h
noncomputable def F_X11_keeps (σ : sw_St) : Option (Unit × sw_St) :=
  L_X11_keeps_15 sw_fuel (sw_uI σ 0 68 (((σ.1 0 68) + 1) - ((σ.1 0 68) + 1) / 20 * 20)) 0
theorem FC_X11_keeps {E : sw_E} {d : Nat} (hd : 0 ≤ d) {p : Unit × sw_St} {σ : sw_St} (h : F_X11_keeps σ  = some p) : sw_KV E sw_gM m_X11_keeps d [.ref 0] σ (fun s => s = p.2) := by
  unfold F_X11_keeps at h
  refine sw_K.of (by decide +kernel) rfl (Nat.le_of_ble_eq_true rfl) ?_
  show sw_W E sw_gM m_X11_keeps d 0 [(0, .ref 0)] [] σ (sw_pV p)
  refine B_X11_keeps_0  ?_
  exact LC_X11_keeps_15 hd _ _ _ h
/-! StrayWoolModel.undo()Z -/
noncomputable def S_X11_undo_21 (c21 : sw_St → Int32 → Option (Int32 × sw_St)) (σ : sw_St) (x1 : Int32) : Option (Int32 × sw_St) :=
  if 245 ≤ x1 then (some (1, (sw_uI (sw_uI σ 0 68 ((((σ.1 0 68) + 20) - 1) - (((σ.1 0 68) + 20) - 1) / 20 * 20)) 0 67 ((σ.1 0 67) - 1)))) else (if sw_inb ((245 * (σ.1 0 68)) + x1) 4900 = true then (if sw_inb x1 245 = true then (c21 (sw_uI σ 37 x1.toNatClampNeg (σ.1 46 (((245 * (σ.1 0 68)) + x1).toNatClampNeg))) (x1 + 1)) else none) else none)
theorem SC_X11_undo_21 {E : sw_E} {d : Nat} (hd : 0 ≤ d) {p : Int32 × sw_St} {c21 : sw_St → Int32 → Option (Int32 × sw_St)} (h21 : ∀ (σ : sw_St) (x1 : Int32), c21 σ x1 = some p → sw_W E sw_gM m_X11_undo d 21 [(0, .ref 0), (1, .int x1)] [] σ (sw_pI p)) {σ : sw_St} {x1 : Int32} (h : S_X11_undo_21 c21 σ x1 = some p) : sw_W E sw_gM m_X11_undo d 21 [(0, .ref 0), (1, .int x1)] [] σ (sw_pI p) := by
  unfold S_X11_undo_21 at h
  refine B_X11_undo_21  (fun hc => ?_) (fun hc => ?_)
  · rw [if_pos hc] at h
    cases h
    exact B_X11_undo_55  ⟨_, rfl, rfl, rfl⟩
  · rw [if_neg hc] at h
    obtain ⟨o1, h⟩ := sw_ifs h
    obtain ⟨o2, h⟩ := sw_ifs h
    refine B_X11_undo_28 (sw_inb_sp o1) (sw_inb_sp o2) ?_
    exact h21 _ _ h
noncomputable def L_X11_undo_21 : Nat → sw_St → Int32 → Option (Int32 × sw_St)
  | 0, _, _ => none
  | k + 1, σ, x1 => S_X11_undo_21 (fun σ x1 => L_X11_undo_21 k σ x1) σ x1
theorem LC_X11_undo_21 {E : sw_E} {d : Nat} (hd : 0 ≤ d) {p : Int32 × sw_St} : ∀ (k : Nat) (σ : sw_St) (x1 : Int32), L_X11_undo_21 k σ x1 = some p → sw_W E sw_gM m_X11_undo d 21 [(0, .ref 0), (1, .int x1)] [] σ (sw_pI p) := by
  intro k
  induction k with
  | zero => intro σ x1 h; cases h
  | succ k ih => intro σ x1 h; exact SC_X11_undo_21 hd ih h
noncomputable def F_X11_undo (σ : sw_St) : Option (Int32 × sw_St) :=
  if (σ.1 0 67) = 0 then (some (0, (sw_uI σ 2 4 ((σ.1 2 4) + 1)))) else (L_X11_undo_21 sw_fuel σ 0)
theorem FC_X11_undo {E : sw_E} {d : Nat} (hd : 0 ≤ d) {p : Int32 × sw_St} {σ : sw_St} (h : F_X11_undo σ  = some p) : sw_KI E sw_gM m_X11_undo d [.ref 0] σ (fun v s => v = p.1 ∧ s = p.2) := by
  unfold F_X11_undo at h
  refine sw_K.of (by decide +kernel) rfl (Nat.le_of_ble_eq_true rfl) ?_
  show sw_W E sw_gM m_X11_undo d 0 [(0, .ref 0)] [] σ (sw_pI p)
  refine B_X11_undo_0  (fun hc => ?_) (fun hc => ?_)
  · rw [if_neg hc] at h
    refine B_X11_undo_19  ?_
    exact LC_X11_undo_21 hd _ _ _ h
  · rw [if_pos hc] at h
    cases h
    exact B_X11_undo_7  ⟨_, rfl, rfl, rfl⟩
/-! StrayWoolModel.isRefused()Z -/
noncomputable def F_X11_isRefused (σ : sw_St) : Option (Int32 × sw_St) :=
  some (0, (sw_uI σ 2 2 ((σ.1 2 2) + 1)))
theorem FC_X11_isRefused {E : sw_E} {d : Nat} (hd : 0 ≤ d) {p : Int32 × sw_St} {σ : sw_St} (h : F_X11_isRefused σ  = some p) : sw_KI E sw_gM m_X11_isRefused d [.ref 0] σ (fun v s => v = p.1 ∧ s = p.2) := by
  unfold F_X11_isRefused at h
  refine sw_K.of (by decide +kernel) rfl (Nat.le_of_ble_eq_true rfl) ?_
  show sw_W E sw_gM m_X11_isRefused d 0 [(0, .ref 0)] [] σ (sw_pI p)
  cases h
  exact B_X11_isRefused_0  ⟨_, rfl, rfl, rfl⟩
/-! StrayWoolModel.lead(II)Z -/
noncomputable def S_X11_lead_27 (σ : sw_St) : Option (Int32 × sw_St) :=
  (F_X11_isRefused σ ).bind fun q1 => if q1.1 = 0 ∨ q1.1 = 1 then some (q1.1, q1.2) else none
theorem SC_X11_lead_27 {E : sw_E} {d : Nat} (hd : 4 ≤ d) {p : Int32 × sw_St} {σ : sw_St} (h : S_X11_lead_27 σ  = some p) : sw_W E sw_gM m_X11_lead d 27 [(0, .ref 0)] [] σ (sw_pI p) := by
  unfold S_X11_lead_27 at h
  obtain ⟨q1, hq, h⟩ := sw_bnd h
  refine B_X11_lead_27  (FC_X11_isRefused (Nat.le_refl _) hq) (Nat.lt_of_lt_of_le (by decide) hd) (fun v s hvs => ?_)
  obtain ⟨hv1, hv2⟩ := hvs; subst hv1; subst hv2
  obtain ⟨hz, h⟩ := sw_ifs h
  cases h
  exact B_X11_lead_31  hz ⟨_, rfl, rfl, rfl⟩
noncomputable def F_X11_lead (σ : sw_St) (x1 : Int32) (x2 : Int32) : Option (Int32 × sw_St) :=
  (F_X11_isSheep σ x1).bind fun q1 => if q1.1 = 0 then (S_X11_lead_27 q1.2 ) else ((F_X11_isGap q1.2 x2.toInt64).bind fun q2 => if q2.1 = 0 then (S_X11_lead_27 q2.2 ) else ((F_X11_beyond q2.2 x1 x2).bind fun q3 => if q3.1 = (-1) then (S_X11_lead_27 q3.2 ) else ((F_X11_keeps q3.2 ).bind fun q4 => (F_X11_goesThrough q4.2 x1 x2).bind fun q5 => if sw_inb (15 + (12 * x1)) 245 = true then (some (1, (sw_uI q5.2 37 ((15 + (12 * x1)).toNatClampNeg) 1))) else none)))
theorem FC_X11_lead {E : sw_E} {d : Nat} (hd : 4 ≤ d) {p : Int32 × sw_St} {σ : sw_St} {x1 : Int32} {x2 : Int32} (h : F_X11_lead σ x1 x2 = some p) : sw_KI E sw_gM m_X11_lead d [.ref 0, .int x1, .int x2] σ (fun v s => v = p.1 ∧ s = p.2) := by
  unfold F_X11_lead at h
  refine sw_K.of (by decide +kernel) rfl (Nat.le_of_ble_eq_true rfl) ?_
  show sw_W E sw_gM m_X11_lead d 0 [(0, .ref 0), (1, .int x1), (2, .int x2)] [] σ (sw_pI p)
  obtain ⟨q1, hq, h⟩ := sw_bnd h
  refine B_X11_lead_0  (FC_X11_isSheep (Nat.le_refl _) hq) (Nat.lt_of_lt_of_le (by decide) hd) (fun v s hvs => ?_)
  obtain ⟨hv1, hv2⟩ := hvs; subst hv1; subst hv2
  refine B_X11_lead_5  (fun hc => ?_) (fun hc => ?_)
  · rw [if_pos hc] at h
    exact SC_X11_lead_27 hd h
  · rw [if_neg hc] at h
    obtain ⟨q2, hq, h⟩ := sw_bnd h
    refine B_X11_lead_8  (FC_X11_isGap (Nat.le_refl _) hq) (Nat.lt_of_lt_of_le (by decide) hd) (fun v s hvs => ?_)
    obtain ⟨hv1, hv2⟩ := hvs; subst hv1; subst hv2
    refine B_X11_lead_14  (fun hc => ?_) (fun hc => ?_)
    · rw [if_pos hc] at h
      exact SC_X11_lead_27 hd h
    · rw [if_neg hc] at h
      obtain ⟨q3, hq, h⟩ := sw_bnd h
      refine B_X11_lead_17  (FC_X11_beyond (Nat.le_refl _) hq) (Nat.lt_of_lt_of_le (by decide) hd) (fun v s hvs => ?_)
      obtain ⟨hv1, hv2⟩ := hvs; subst hv1; subst hv2
      refine B_X11_lead_23  (fun hc => ?_) (fun hc => ?_)
      · rw [if_neg hc] at h
        obtain ⟨q4, hq, h⟩ := sw_bnd h
        refine B_X11_lead_32  (FC_X11_keeps (Nat.le_refl _) hq) (Nat.lt_of_lt_of_le (by decide) hd) (fun s hvs => ?_)
        subst hvs
        obtain ⟨q5, hq, h⟩ := sw_bnd h
        refine B_X11_lead_36  (FC_X11_goesThrough (Nat.le_refl _) hq) (Nat.lt_of_lt_of_le (by decide) hd) (fun s hvs => ?_)
        subst hvs
        obtain ⟨o6, h⟩ := sw_ifs h
        cases h
        exact B_X11_lead_42 (sw_inb_sp o6) ⟨_, rfl, rfl, rfl⟩
      · rw [if_pos hc] at h
        exact SC_X11_lead_27 hd h
/-! StrayWoolModel.swing(II)Z -/
noncomputable def S_X11_swing_31 (σ : sw_St) : Option (Int32 × sw_St) :=
  (F_X11_isRefused σ ).bind fun q1 => if q1.1 = 0 ∨ q1.1 = 1 then some (q1.1, q1.2) else none
theorem SC_X11_swing_31 {E : sw_E} {d : Nat} (hd : 2 ≤ d) {p : Int32 × sw_St} {σ : sw_St} (h : S_X11_swing_31 σ  = some p) : sw_W E sw_gM m_X11_swing d 31 [(0, .ref 0)] [] σ (sw_pI p) := by
  unfold S_X11_swing_31 at h
  obtain ⟨q1, hq, h⟩ := sw_bnd h
  refine B_X11_swing_31  (FC_X11_isRefused (Nat.le_refl _) hq) (Nat.lt_of_lt_of_le (by decide) hd) (fun v s hvs => ?_)
  obtain ⟨hv1, hv2⟩ := hvs; subst hv1; subst hv2
  obtain ⟨hz, h⟩ := sw_ifs h
  cases h
  exact B_X11_swing_35  hz ⟨_, rfl, rfl, rfl⟩
noncomputable def F_X11_swing (σ : sw_St) (x1 : Int32) (x2 : Int32) : Option (Int32 × sw_St) :=
  (F_X11_isGap σ x1.toInt64).bind fun q1 => if q1.1 = 0 then (S_X11_swing_31 q1.2 ) else ((F_X11_isIn q1.2 x2.toInt64 0 1).bind fun q2 => if q2.1 = 0 then (S_X11_swing_31 q2.2 ) else (if sw_inb (2 + x1) 245 = true then (if (q2.2.1 37 ((2 + x1).toNatClampNeg)) = x2 then (S_X11_swing_31 q2.2 ) else ((F_X11_keeps q2.2 ).bind fun q4 => if sw_inb (2 + x1) 245 = true then (some (1, (sw_uI q4.2 37 ((2 + x1).toNatClampNeg) x2))) else none)) else none))
theorem FC_X11_swing {E : sw_E} {d : Nat} (hd : 2 ≤ d) {p : Int32 × sw_St} {σ : sw_St} {x1 : Int32} {x2 : Int32} (h : F_X11_swing σ x1 x2 = some p) : sw_KI E sw_gM m_X11_swing d [.ref 0, .int x1, .int x2] σ (fun v s => v = p.1 ∧ s = p.2) := by
  unfold F_X11_swing at h
  refine sw_K.of (by decide +kernel) rfl (Nat.le_of_ble_eq_true rfl) ?_
  show sw_W E sw_gM m_X11_swing d 0 [(0, .ref 0), (1, .int x1), (2, .int x2)] [] σ (sw_pI p)
  obtain ⟨q1, hq, h⟩ := sw_bnd h
  refine B_X11_swing_0  (FC_X11_isGap (Nat.le_refl _) hq) (Nat.lt_of_lt_of_le (by decide) hd) (fun v s hvs => ?_)
  obtain ⟨hv1, hv2⟩ := hvs; subst hv1; subst hv2
  refine B_X11_swing_6  (fun hc => ?_) (fun hc => ?_)
  · rw [if_pos hc] at h
    exact SC_X11_swing_31 hd h
  · rw [if_neg hc] at h
    obtain ⟨q2, hq, h⟩ := sw_bnd h
    refine B_X11_swing_9  (FC_X11_isIn (Nat.le_refl _) hq) (Nat.lt_of_lt_of_le (by decide) hd) (fun v s hvs => ?_)
    obtain ⟨hv1, hv2⟩ := hvs; subst hv1; subst hv2
    refine B_X11_swing_16  (fun hc => ?_) (fun hc => ?_)
    · rw [if_pos hc] at h
      exact SC_X11_swing_31 hd h
    · rw [if_neg hc] at h
      obtain ⟨o3, h⟩ := sw_ifs h
      refine B_X11_swing_19 (sw_inb_sp o3) (fun hc => ?_) (fun hc => ?_)
      · rw [if_neg hc] at h
        obtain ⟨q4, hq, h⟩ := sw_bnd h
        refine B_X11_swing_36  (FC_X11_keeps (Nat.le_refl _) hq) (Nat.lt_of_lt_of_le (by decide) hd) (fun s hvs => ?_)
        subst hvs
        obtain ⟨o5, h⟩ := sw_ifs h
        cases h
        exact B_X11_swing_40 (sw_inb_sp o5) ⟨_, rfl, rfl, rfl⟩
      · rw [if_pos hc] at h
        exact SC_X11_swing_31 hd h
/-! StrayWoolModel.tell(III)Z -/
noncomputable def S_X11_tell_39 (σ : sw_St) : Option (Int32 × sw_St) :=
  (F_X11_isRefused σ ).bind fun q1 => if q1.1 = 0 ∨ q1.1 = 1 then some (q1.1, q1.2) else none
theorem SC_X11_tell_39 {E : sw_E} {d : Nat} (hd : 2 ≤ d) {p : Int32 × sw_St} {σ : sw_St} (h : S_X11_tell_39 σ  = some p) : sw_W E sw_gM m_X11_tell d 39 [(0, .ref 0)] [] σ (sw_pI p) := by
  unfold S_X11_tell_39 at h
  obtain ⟨q1, hq, h⟩ := sw_bnd h
  refine B_X11_tell_39  (FC_X11_isRefused (Nat.le_refl _) hq) (Nat.lt_of_lt_of_le (by decide) hd) (fun v s hvs => ?_)
  obtain ⟨hv1, hv2⟩ := hvs; subst hv1; subst hv2
  obtain ⟨hz, h⟩ := sw_ifs h
  cases h
  exact B_X11_tell_43  hz ⟨_, rfl, rfl, rfl⟩
noncomputable def F_X11_tell (σ : sw_St) (x1 : Int32) (x2 : Int32) (x3 : Int32) : Option (Int32 × sw_St) :=
  (F_X11_isSheep σ x1).bind fun q1 => if q1.1 = 0 then (S_X11_tell_39 q1.2 ) else ((F_X11_isField q1.2 x2.toInt64).bind fun q2 => if q2.1 = 0 then (S_X11_tell_39 q2.2 ) else ((F_X11_isIn q2.2 x3.toInt64 0 99).bind fun q3 => if q3.1 = 0 then (S_X11_tell_39 q3.2 ) else ((F_X11_seenOf q3.2 x1 x2).bind fun q4 => if q4.1 = x3 then (S_X11_tell_39 q4.2 ) else ((F_X11_keeps q4.2 ).bind fun q5 => if sw_inb ((16 + (12 * x1)) + x2) 245 = true then (some (1, (sw_uI q5.2 37 (((16 + (12 * x1)) + x2).toNatClampNeg) x3))) else none))))
theorem FC_X11_tell {E : sw_E} {d : Nat} (hd : 2 ≤ d) {p : Int32 × sw_St} {σ : sw_St} {x1 : Int32} {x2 : Int32} {x3 : Int32} (h : F_X11_tell σ x1 x2 x3 = some p) : sw_KI E sw_gM m_X11_tell d [.ref 0, .int x1, .int x2, .int x3] σ (fun v s => v = p.1 ∧ s = p.2) := by
  unfold F_X11_tell at h
  refine sw_K.of (by decide +kernel) rfl (Nat.le_of_ble_eq_true rfl) ?_
  show sw_W E sw_gM m_X11_tell d 0 [(0, .ref 0), (1, .int x1), (2, .int x2), (3, .int x3)] [] σ (sw_pI p)
  obtain ⟨q1, hq, h⟩ := sw_bnd h
  refine B_X11_tell_0  (FC_X11_isSheep (Nat.le_refl _) hq) (Nat.lt_of_lt_of_le (by decide) hd) (fun v s hvs => ?_)
  obtain ⟨hv1, hv2⟩ := hvs; subst hv1; subst hv2
  refine B_X11_tell_5  (fun hc => ?_) (fun hc => ?_)
  · rw [if_pos hc] at h
    exact SC_X11_tell_39 hd h
  · rw [if_neg hc] at h
    obtain ⟨q2, hq, h⟩ := sw_bnd h
    refine B_X11_tell_8  (FC_X11_isField (Nat.le_refl _) hq) (Nat.lt_of_lt_of_le (by decide) hd) (fun v s hvs => ?_)
    obtain ⟨hv1, hv2⟩ := hvs; subst hv1; subst hv2
    refine B_X11_tell_14  (fun hc => ?_) (fun hc => ?_)
    · rw [if_pos hc] at h
      exact SC_X11_tell_39 hd h
    · rw [if_neg hc] at h
      obtain ⟨q3, hq, h⟩ := sw_bnd h
      refine B_X11_tell_17  (FC_X11_isIn (Nat.le_refl _) hq) (Nat.lt_of_lt_of_le (by decide) hd) (fun v s hvs => ?_)
      obtain ⟨hv1, hv2⟩ := hvs; subst hv1; subst hv2
      refine B_X11_tell_26  (fun hc => ?_) (fun hc => ?_)
      · rw [if_pos hc] at h
        exact SC_X11_tell_39 hd h
      · rw [if_neg hc] at h
        obtain ⟨q4, hq, h⟩ := sw_bnd h
        refine B_X11_tell_29  (FC_X11_seenOf (Nat.le_refl _) hq) (Nat.lt_of_lt_of_le (by decide) hd) (fun v s hvs => ?_)
        obtain ⟨hv1, hv2⟩ := hvs; subst hv1; subst hv2
        refine B_X11_tell_35  (fun hc => ?_) (fun hc => ?_)
        · rw [if_neg hc] at h
          obtain ⟨q5, hq, h⟩ := sw_bnd h
          refine B_X11_tell_44  (FC_X11_keeps (Nat.le_refl _) hq) (Nat.lt_of_lt_of_le (by decide) hd) (fun s hvs => ?_)
          subst hvs
          obtain ⟨o6, h⟩ := sw_ifs h
          cases h
          exact B_X11_tell_48 (sw_inb_sp o6) ⟨_, rfl, rfl, rfl⟩
        · rw [if_pos hc] at h
          exact SC_X11_tell_39 hd h
/-! StrayWoolModel.seed(I)Z -/
noncomputable def F_X11_seed (σ : sw_St) (x1 : Int32) : Option (Int32 × sw_St) :=
  if 0 ≤ x1 then (some (1, (sw_uL σ 0 69 x1.toInt64))) else (some (0, (sw_uI σ 2 5 ((σ.1 2 5) + 1))))
theorem FC_X11_seed {E : sw_E} {d : Nat} (hd : 0 ≤ d) {p : Int32 × sw_St} {σ : sw_St} {x1 : Int32} (h : F_X11_seed σ x1 = some p) : sw_KI E sw_gM m_X11_seed d [.ref 0, .int x1] σ (fun v s => v = p.1 ∧ s = p.2) := by
  unfold F_X11_seed at h
  refine sw_K.of (by decide +kernel) rfl (Nat.le_of_ble_eq_true rfl) ?_
  show sw_W E sw_gM m_X11_seed d 0 [(0, .ref 0), (1, .int x1)] [] σ (sw_pI p)
  refine B_X11_seed_0  (fun hc => ?_) (fun hc => ?_)
  · rw [if_pos hc] at h
    cases h
    exact B_X11_seed_16  ⟨_, rfl, rfl, rfl⟩
  · rw [if_neg hc] at h
    cases h
    exact B_X11_seed_4  ⟨_, rfl, rfl, rfl⟩
/-! StrayWoolModel.drawOf(I)I -/
noncomputable def F_X11_drawOf (σ : sw_St) (x1 : Int32) : Option (Int32 × sw_St) :=
  if ¬ x1.toInt64 = 0 then (some ((((((1103515245 * (σ.2.1 0 69)) + 12345) - ((1103515245 * (σ.2.1 0 69)) + 12345) / 2147483648 * 2147483648) / 64) - ((((1103515245 * (σ.2.1 0 69)) + 12345) - ((1103515245 * (σ.2.1 0 69)) + 12345) / 2147483648 * 2147483648) / 64) / x1.toInt64 * x1.toInt64).toInt32, (sw_uL σ 0 69 (((1103515245 * (σ.2.1 0 69)) + 12345) - ((1103515245 * (σ.2.1 0 69)) + 12345) / 2147483648 * 2147483648)))) else none
theorem FC_X11_drawOf {E : sw_E} {d : Nat} (hd : 0 ≤ d) {p : Int32 × sw_St} {σ : sw_St} {x1 : Int32} (h : F_X11_drawOf σ x1 = some p) : sw_KI E sw_gM m_X11_drawOf d [.ref 0, .int x1] σ (fun v s => v = p.1 ∧ s = p.2) := by
  unfold F_X11_drawOf at h
  refine sw_K.of (by decide +kernel) rfl (Nat.le_of_ble_eq_true rfl) ?_
  show sw_W E sw_gM m_X11_drawOf d 0 [(0, .ref 0), (1, .int x1)] [] σ (sw_pI p)
  obtain ⟨o1, h⟩ := sw_ifs h
  cases h
  exact B_X11_drawOf_0 o1 ⟨_, rfl, rfl, rfl⟩
/-! StrayWoolModel.qCode(I)V -/
noncomputable def F_X11_qCode (σ : sw_St) (x1 : Int32) : Option (Unit × sw_St) :=
  if sw_inb (σ.1 0 95) 1700 = true then (some ((), (sw_uI (sw_uI σ 71 ((σ.1 0 95).toNatClampNeg) x1) 0 95 ((σ.1 0 95) + 1)))) else none
theorem FC_X11_qCode {E : sw_E} {d : Nat} (hd : 0 ≤ d) {p : Unit × sw_St} {σ : sw_St} {x1 : Int32} (h : F_X11_qCode σ x1 = some p) : sw_KV E sw_gM m_X11_qCode d [.ref 0, .int x1] σ (fun s => s = p.2) := by
  unfold F_X11_qCode at h
  refine sw_K.of (by decide +kernel) rfl (Nat.le_of_ble_eq_true rfl) ?_
  show sw_W E sw_gM m_X11_qCode d 0 [(0, .ref 0), (1, .int x1)] [] σ (sw_pV p)
  obtain ⟨o1, h⟩ := sw_ifs h
  cases h
  exact B_X11_qCode_0 (sw_inb_sp o1) ⟨rfl, rfl⟩
/-! StrayWoolModel.qOpens(II)V -/
noncomputable def F_X11_qOpens (σ : sw_St) (x1 : Int32) (x2 : Int32) : Option (Unit × sw_St) :=
  if (σ.1 0 5) = 0 then (if (σ.1 0 98) = 6 then ((F_X11_fail σ 4 x2).bind fun q2 => some ((), q2.2)) else (if sw_inb (σ.1 0 97) 1700 = true then (some ((), (sw_uI (sw_uI (sw_uI σ 0 98 ((σ.1 0 98) + 1)) 72 ((σ.1 0 97).toNatClampNeg) x1) 0 97 ((σ.1 0 97) + 1)))) else none)) else (some ((), σ))
theorem FC_X11_qOpens {E : sw_E} {d : Nat} (hd : 1 ≤ d) {p : Unit × sw_St} {σ : sw_St} {x1 : Int32} {x2 : Int32} (h : F_X11_qOpens σ x1 x2 = some p) : sw_KV E sw_gM m_X11_qOpens d [.ref 0, .int x1, .int x2] σ (fun s => s = p.2) := by
  unfold F_X11_qOpens at h
  refine sw_K.of (by decide +kernel) rfl (Nat.le_of_ble_eq_true rfl) ?_
  show sw_W E sw_gM m_X11_qOpens d 0 [(0, .ref 0), (1, .int x1), (2, .int x2)] [] σ (sw_pV p)
  refine B_X11_qOpens_0  (fun hc => ?_) (fun hc => ?_)
  · rw [if_pos hc] at h
    refine B_X11_qOpens_8  (fun hc => ?_) (fun hc => ?_)
    · rw [if_neg hc] at h
      obtain ⟨o1, h⟩ := sw_ifs h
      cases h
      exact B_X11_qOpens_24 (sw_inb_sp o1) ⟨rfl, rfl⟩
    · rw [if_pos hc] at h
      obtain ⟨q2, hq, h⟩ := sw_bnd h
      refine B_X11_qOpens_17  (FC_X11_fail (Nat.le_refl _) hq) (Nat.lt_of_lt_of_le (by decide) hd) (fun s hvs => ?_)
      subst hvs
      cases h
      exact B_X11_qOpens_23  ⟨rfl, rfl⟩
  · rw [if_neg hc] at h
    cases h
    exact B_X11_qOpens_7  ⟨rfl, rfl⟩
/-! StrayWoolModel.qIsOn(I)Z -/
noncomputable def S_X11_qIsOn_27 (σ : sw_St) (sx0 : Int32) : Option (Int32 × sw_St) :=
  if sx0 = 0 ∨ sx0 = 1 then some (sx0, σ) else none
theorem SC_X11_qIsOn_27 {E : sw_E} {d : Nat} (hd : 0 ≤ d) {p : Int32 × sw_St} {σ : sw_St} {sx0 : Int32} (h : S_X11_qIsOn_27 σ sx0 = some p) : sw_W E sw_gM m_X11_qIsOn d 27 [] [.int sx0] σ (sw_pI p) := by
  unfold S_X11_qIsOn_27 at h
  obtain ⟨hz, h⟩ := sw_ifs h
  cases h
  exact B_X11_qIsOn_27  hz ⟨_, rfl, rfl, rfl⟩
noncomputable def S_X11_qIsOn_26 (σ : sw_St) : Option (Int32 × sw_St) :=
  S_X11_qIsOn_27 σ 0
theorem SC_X11_qIsOn_26 {E : sw_E} {d : Nat} (hd : 0 ≤ d) {p : Int32 × sw_St} {σ : sw_St} (h : S_X11_qIsOn_26 σ  = some p) : sw_W E sw_gM m_X11_qIsOn d 26 [] [] σ (sw_pI p) := by
  unfold S_X11_qIsOn_26 at h
  refine B_X11_qIsOn_26  ?_
  exact SC_X11_qIsOn_27 hd h
noncomputable def F_X11_qIsOn (σ : sw_St) (x1 : Int32) : Option (Int32 × sw_St) :=
  if (σ.1 0 97) ≤ 0 then (S_X11_qIsOn_26 σ ) else (if sw_inb ((σ.1 0 97) - 1) 1700 = true then (if (σ.1 72 (((σ.1 0 97) - 1).toNatClampNeg)) = x1 then (S_X11_qIsOn_27 σ 1) else (S_X11_qIsOn_26 σ )) else none)
theorem FC_X11_qIsOn {E : sw_E} {d : Nat} (hd : 0 ≤ d) {p : Int32 × sw_St} {σ : sw_St} {x1 : Int32} (h : F_X11_qIsOn σ x1 = some p) : sw_KI E sw_gM m_X11_qIsOn d [.ref 0, .int x1] σ (fun v s => v = p.1 ∧ s = p.2) := by
  unfold F_X11_qIsOn at h
  refine sw_K.of (by decide +kernel) rfl (Nat.le_of_ble_eq_true rfl) ?_
  show sw_W E sw_gM m_X11_qIsOn d 0 [(0, .ref 0), (1, .int x1)] [] σ (sw_pI p)
  refine B_X11_qIsOn_0  (fun hc => ?_) (fun hc => ?_)
  · rw [if_pos hc] at h
    exact SC_X11_qIsOn_26 hd h
  · rw [if_neg hc] at h
    obtain ⟨o1, h⟩ := sw_ifs h
    refine B_X11_qIsOn_7 (sw_inb_sp o1) (fun hc => ?_) (fun hc => ?_)
    · rw [if_neg hc] at h
      exact SC_X11_qIsOn_26 hd h
    · rw [if_pos hc] at h
      refine B_X11_qIsOn_22  ?_
      exact SC_X11_qIsOn_27 hd h
/-! StrayWoolModel.qDrops()V -/
noncomputable def F_X11_qDrops (σ : sw_St) : Option (Unit × sw_St) :=
  if sw_inb ((σ.1 0 97) - 1) 1700 = true then ((F_X11_qCode (sw_uI σ 0 97 ((σ.1 0 97) - 1)) (σ.1 72 (((σ.1 0 97) - 1).toNatClampNeg))).bind fun q2 => some ((), q2.2)) else none
theorem FC_X11_qDrops {E : sw_E} {d : Nat} (hd : 1 ≤ d) {p : Unit × sw_St} {σ : sw_St} (h : F_X11_qDrops σ  = some p) : sw_KV E sw_gM m_X11_qDrops d [.ref 0] σ (fun s => s = p.2) := by
  unfold F_X11_qDrops at h
  refine sw_K.of (by decide +kernel) rfl (Nat.le_of_ble_eq_true rfl) ?_
  show sw_W E sw_gM m_X11_qDrops d 0 [(0, .ref 0)] [] σ (sw_pV p)
  obtain ⟨o1, h⟩ := sw_ifs h
  obtain ⟨q2, hq, h⟩ := sw_bnd h
  refine B_X11_qDrops_0 (sw_inb_sp o1) (FC_X11_qCode (Nat.le_refl _) hq) (Nat.lt_of_lt_of_le (by decide) hd) (fun s hvs => ?_)
  subst hvs
  cases h
  exact B_X11_qDrops_23  ⟨rfl, rfl⟩
/-! StrayWoolModel.qIsBracket(I)Z -/
noncomputable def S_X11_qIsBracket_17 (σ : sw_St) (sx0 : Int32) : Option (Int32 × sw_St) :=
  if sx0 = 0 ∨ sx0 = 1 then some (sx0, σ) else none
theorem SC_X11_qIsBracket_17 {E : sw_E} {d : Nat} (hd : 0 ≤ d) {p : Int32 × sw_St} {σ : sw_St} {sx0 : Int32} (h : S_X11_qIsBracket_17 σ sx0 = some p) : sw_W E sw_gM m_X11_qIsBracket d 17 [] [.int sx0] σ (sw_pI p) := by
  unfold S_X11_qIsBracket_17 at h
  obtain ⟨hz, h⟩ := sw_ifs h
  cases h
  exact B_X11_qIsBracket_17  hz ⟨_, rfl, rfl, rfl⟩
noncomputable def S_X11_qIsBracket_16 (σ : sw_St) : Option (Int32 × sw_St) :=
  S_X11_qIsBracket_17 σ 0
theorem SC_X11_qIsBracket_16 {E : sw_E} {d : Nat} (hd : 0 ≤ d) {p : Int32 × sw_St} {σ : sw_St} (h : S_X11_qIsBracket_16 σ  = some p) : sw_W E sw_gM m_X11_qIsBracket d 16 [] [] σ (sw_pI p) := by
  unfold S_X11_qIsBracket_16 at h
  refine B_X11_qIsBracket_16  ?_
  exact SC_X11_qIsBracket_17 hd h
noncomputable def F_X11_qIsBracket (σ : sw_St) (x0 : Int32) : Option (Int32 × sw_St) :=
  if x0 < 20 then (S_X11_qIsBracket_16 σ ) else (if 24 < x0 then (S_X11_qIsBracket_16 σ ) else (S_X11_qIsBracket_17 σ 1))
theorem FC_X11_qIsBracket {E : sw_E} {d : Nat} (hd : 0 ≤ d) {p : Int32 × sw_St} {σ : sw_St} {x0 : Int32} (h : F_X11_qIsBracket σ x0 = some p) : sw_KI E sw_gM m_X11_qIsBracket d [.int x0] σ (fun v s => v = p.1 ∧ s = p.2) := by
  unfold F_X11_qIsBracket at h
  refine sw_K.of (by decide +kernel) rfl (Nat.le_of_ble_eq_true rfl) ?_
  show sw_W E sw_gM m_X11_qIsBracket d 0 [(0, .int x0)] [] σ (sw_pI p)
  refine B_X11_qIsBracket_0  (fun hc => ?_) (fun hc => ?_)
  · rw [if_pos hc] at h
    exact SC_X11_qIsBracket_16 hd h
  · rw [if_neg hc] at h
    refine B_X11_qIsBracket_6  (fun hc => ?_) (fun hc => ?_)
    · rw [if_pos hc] at h
      exact SC_X11_qIsBracket_16 hd h
    · rw [if_neg hc] at h
      refine B_X11_qIsBracket_12  ?_
      exact SC_X11_qIsBracket_17 hd h
/-! StrayWoolModel.qBracket()I -/
noncomputable def S_X11_qBracket_51 (σ : sw_St) (sx0 : Int32) : Option (Int32 × sw_St) :=
  some (sx0, σ)
theorem SC_X11_qBracket_51 {E : sw_E} {d : Nat} (hd : 1 ≤ d) {p : Int32 × sw_St} {σ : sw_St} {sx0 : Int32} (h : S_X11_qBracket_51 σ sx0 = some p) : sw_W E sw_gM m_X11_qBracket d 51 [] [.int sx0] σ (sw_pI p) := by
  unfold S_X11_qBracket_51 at h
  cases h
  exact B_X11_qBracket_51  ⟨_, rfl, rfl, rfl⟩
noncomputable def S_X11_qBracket_33 (σ : sw_St) (x1 : Int32) : Option (Int32 × sw_St) :=
  if x1 < (σ.1 0 99) then (S_X11_qBracket_51 σ (-1)) else (if sw_inb x1 1700 = true then (S_X11_qBracket_51 σ (σ.1 72 x1.toNatClampNeg)) else none)
theorem SC_X11_qBracket_33 {E : sw_E} {d : Nat} (hd : 1 ≤ d) {p : Int32 × sw_St} {σ : sw_St} {x1 : Int32} (h : S_X11_qBracket_33 σ x1 = some p) : sw_W E sw_gM m_X11_qBracket d 33 [(0, .ref 0), (1, .int x1)] [] σ (sw_pI p) := by
  unfold S_X11_qBracket_33 at h
  refine B_X11_qBracket_33  (fun hc => ?_) (fun hc => ?_)
  · rw [if_pos hc] at h
    refine B_X11_qBracket_50  ?_
    exact SC_X11_qBracket_51 hd h
  · rw [if_neg hc] at h
    obtain ⟨o1, h⟩ := sw_ifs h
    refine B_X11_qBracket_41 (sw_inb_sp o1) ?_
    exact SC_X11_qBracket_51 hd h
noncomputable def S_X11_qBracket_7 (c7 : sw_St → Int32 → Option (Int32 × sw_St)) (σ : sw_St) (x1 : Int32) : Option (Int32 × sw_St) :=
  if x1 < (σ.1 0 99) then (S_X11_qBracket_33 σ x1) else (if sw_inb x1 1700 = true then ((F_X11_qIsBracket σ (σ.1 72 x1.toNatClampNeg)).bind fun q2 => if q2.1 = 0 then (c7 q2.2 (x1 + (-1))) else (S_X11_qBracket_33 q2.2 x1)) else none)
theorem SC_X11_qBracket_7 {E : sw_E} {d : Nat} (hd : 1 ≤ d) {p : Int32 × sw_St} {c7 : sw_St → Int32 → Option (Int32 × sw_St)} (h7 : ∀ (σ : sw_St) (x1 : Int32), c7 σ x1 = some p → sw_W E sw_gM m_X11_qBracket d 7 [(0, .ref 0), (1, .int x1)] [] σ (sw_pI p)) {σ : sw_St} {x1 : Int32} (h : S_X11_qBracket_7 c7 σ x1 = some p) : sw_W E sw_gM m_X11_qBracket d 7 [(0, .ref 0), (1, .int x1)] [] σ (sw_pI p) := by
  unfold S_X11_qBracket_7 at h
  refine B_X11_qBracket_7  (fun hc => ?_) (fun hc => ?_)
  · rw [if_pos hc] at h
    exact SC_X11_qBracket_33 hd h
  · rw [if_neg hc] at h
    obtain ⟨o1, h⟩ := sw_ifs h
    obtain ⟨q2, hq, h⟩ := sw_bnd h
    refine B_X11_qBracket_15 (sw_inb_sp o1) (FC_X11_qIsBracket (Nat.le_refl _) hq) (Nat.lt_of_lt_of_le (by decide) hd) (fun v s hvs => ?_)
    obtain ⟨hv1, hv2⟩ := hvs; subst hv1; subst hv2
    refine B_X11_qBracket_24  (fun hc => ?_) (fun hc => ?_)
    · rw [if_neg hc] at h
      exact SC_X11_qBracket_33 hd h
    · rw [if_pos hc] at h
      refine B_X11_qBracket_27  ?_
      exact h7 _ _ h
noncomputable def L_X11_qBracket_7 : Nat → sw_St → Int32 → Option (Int32 × sw_St)
  | 0, _, _ => none
  | k + 1, σ, x1 => S_X11_qBracket_7 (fun σ x1 => L_X11_qBracket_7 k σ x1) σ x1
theorem LC_X11_qBracket_7 {E : sw_E} {d : Nat} (hd : 1 ≤ d) {p : Int32 × sw_St} : ∀ (k : Nat) (σ : sw_St) (x1 : Int32), L_X11_qBracket_7 k σ x1 = some p → sw_W E sw_gM m_X11_qBracket d 7 [(0, .ref 0), (1, .int x1)] [] σ (sw_pI p) := by
  intro k
  induction k with
  | zero => intro σ x1 h; cases h
  | succ k ih => intro σ x1 h; exact SC_X11_qBracket_7 hd ih h
noncomputable def F_X11_qBracket (σ : sw_St) : Option (Int32 × sw_St) :=
  L_X11_qBracket_7 sw_fuel σ ((σ.1 0 97) - 1)
theorem FC_X11_qBracket {E : sw_E} {d : Nat} (hd : 1 ≤ d) {p : Int32 × sw_St} {σ : sw_St} (h : F_X11_qBracket σ  = some p) : sw_KI E sw_gM m_X11_qBracket d [.ref 0] σ (fun v s => v = p.1 ∧ s = p.2) := by
  unfold F_X11_qBracket at h
  refine sw_K.of (by decide +kernel) rfl (Nat.le_of_ble_eq_true rfl) ?_
  show sw_W E sw_gM m_X11_qBracket d 0 [(0, .ref 0)] [] σ (sw_pI p)
  refine B_X11_qBracket_0  ?_
  exact LC_X11_qBracket_7 hd _ _ _ h
/-! StrayWoolModel.qDropsToBracket()V -/
noncomputable def S_X11_qDropsToBracket_35 (σ : sw_St) : Option (Unit × sw_St) :=
  some ((), σ)
theorem SC_X11_qDropsToBracket_35 {E : sw_E} {d : Nat} (hd : 2 ≤ d) {p : Unit × sw_St} {σ : sw_St} (h : S_X11_qDropsToBracket_35 σ  = some p) : sw_W E sw_gM m_X11_qDropsToBracket d 35 [] [] σ (sw_pV p) := by
  unfold S_X11_qDropsToBracket_35 at h
  cases h
  exact B_X11_qDropsToBracket_35  ⟨rfl, rfl⟩
noncomputable def S_X11_qDropsToBracket_0 (c0 : sw_St → Option (Unit × sw_St)) (σ : sw_St) : Option (Unit × sw_St) :=
  if (σ.1 0 97) ≤ (σ.1 0 99) then (S_X11_qDropsToBracket_35 σ ) else (if sw_inb ((σ.1 0 97) - 1) 1700 = true then ((F_X11_qIsBracket σ (σ.1 72 (((σ.1 0 97) - 1).toNatClampNeg))).bind fun q2 => if q2.1 = 0 then ((F_X11_qDrops q2.2 ).bind fun q3 => c0 q3.2 ) else (S_X11_qDropsToBracket_35 q2.2 )) else none)
theorem SC_X11_qDropsToBracket_0 {E : sw_E} {d : Nat} (hd : 2 ≤ d) {p : Unit × sw_St} {c0 : sw_St → Option (Unit × sw_St)} (h0 : ∀ (σ : sw_St), c0 σ  = some p → sw_W E sw_gM m_X11_qDropsToBracket d 0 [(0, .ref 0)] [] σ (sw_pV p)) {σ : sw_St} (h : S_X11_qDropsToBracket_0 c0 σ  = some p) : sw_W E sw_gM m_X11_qDropsToBracket d 0 [(0, .ref 0)] [] σ (sw_pV p) := by
  unfold S_X11_qDropsToBracket_0 at h
  refine B_X11_qDropsToBracket_0  (fun hc => ?_) (fun hc => ?_)
  · rw [if_pos hc] at h
    exact SC_X11_qDropsToBracket_35 hd h
  · rw [if_neg hc] at h
    obtain ⟨o1, h⟩ := sw_ifs h
    obtain ⟨q2, hq, h⟩ := sw_bnd h
    refine B_X11_qDropsToBracket_11 (sw_inb_sp o1) (FC_X11_qIsBracket (Nat.le_refl _) hq) (Nat.lt_of_lt_of_le (by decide) hd) (fun v s hvs => ?_)
    obtain ⟨hv1, hv2⟩ := hvs; subst hv1; subst hv2
    refine B_X11_qDropsToBracket_25  (fun hc => ?_) (fun hc => ?_)
    · rw [if_neg hc] at h
      exact SC_X11_qDropsToBracket_35 hd h
    · rw [if_pos hc] at h
      obtain ⟨q3, hq, h⟩ := sw_bnd h
      refine B_X11_qDropsToBracket_28  (FC_X11_qDrops (Nat.le_refl _) hq) (Nat.lt_of_lt_of_le (by decide) hd) (fun s hvs => ?_)
      subst hvs
      refine B_X11_qDropsToBracket_32  ?_
      exact h0 _  h
noncomputable def L_X11_qDropsToBracket_0 : Nat → sw_St → Option (Unit × sw_St)
  | 0, _ => none
  | k + 1, σ => S_X11_qDropsToBracket_0 (fun σ => L_X11_qDropsToBracket_0 k σ ) σ 
theorem LC_X11_qDropsToBracket_0 {E : sw_E} {d : Nat} (hd : 2 ≤ d) {p : Unit × sw_St} : ∀ (k : Nat) (σ : sw_St), L_X11_qDropsToBracket_0 k σ  = some p → sw_W E sw_gM m_X11_qDropsToBracket d 0 [(0, .ref 0)] [] σ (sw_pV p) := by
  intro k
  induction k with
  | zero => intro σ h; cases h
  | succ k ih => intro σ h; exact SC_X11_qDropsToBracket_0 hd ih h
noncomputable def F_X11_qDropsToBracket (σ : sw_St) : Option (Unit × sw_St) :=
  L_X11_qDropsToBracket_0 sw_fuel σ 
theorem FC_X11_qDropsToBracket {E : sw_E} {d : Nat} (hd : 2 ≤ d) {p : Unit × sw_St} {σ : sw_St} (h : F_X11_qDropsToBracket σ  = some p) : sw_KV E sw_gM m_X11_qDropsToBracket d [.ref 0] σ (fun s => s = p.2) := by
  unfold F_X11_qDropsToBracket at h
  refine sw_K.of (by decide +kernel) rfl (Nat.le_of_ble_eq_true rfl) ?_
  show sw_W E sw_gM m_X11_qDropsToBracket d 0 [(0, .ref 0)] [] σ (sw_pV p)
  exact LC_X11_qDropsToBracket_0 hd _ _  h
/-! StrayWoolModel.qWordHere()I -/
noncomputable def S_X11_qWordHere_73 (σ : sw_St) : Option (Int32 × sw_St) :=
  (F_X11_isHere σ 64).bind fun q1 => if q1.1 = 0 then ((F_X11_isHere q1.2 65).bind fun q2 => if q2.1 = 0 then ((F_X11_isHere q2.2 66).bind fun q3 => if q3.1 = 0 then ((F_X11_isHere q3.2 67).bind fun q4 => if q4.1 = 0 then ((F_X11_isHere q4.2 68).bind fun q5 => if q5.1 = 0 then ((F_X11_isHere q5.2 69).bind fun q6 => if q6.1 = 0 then ((F_X11_isHere q6.2 70).bind fun q7 => if q7.1 = 0 then (some ((-1), q7.2)) else (some (11, q7.2))) else (some (10, q6.2))) else (some (9, q5.2))) else (some (8, q4.2))) else (some (7, q3.2))) else (some (6, q2.2))) else (some (5, q1.2))
theorem SC_X11_qWordHere_73 {E : sw_E} {d : Nat} (hd : 2 ≤ d) {p : Int32 × sw_St} {σ : sw_St} (h : S_X11_qWordHere_73 σ  = some p) : sw_W E sw_gM m_X11_qWordHere d 73 [(0, .ref 0)] [] σ (sw_pI p) := by
  unfold S_X11_qWordHere_73 at h
  obtain ⟨q1, hq, h⟩ := sw_bnd h
  refine B_X11_qWordHere_73  (FC_X11_isHere (Nat.le_refl _) hq) (Nat.lt_of_lt_of_le (by decide) hd) (fun v s hvs => ?_)
  obtain ⟨hv1, hv2⟩ := hvs; subst hv1; subst hv2
  refine B_X11_qWordHere_81  (fun hc => ?_) (fun hc => ?_)
  · rw [if_pos hc] at h
    obtain ⟨q2, hq, h⟩ := sw_bnd h
    refine B_X11_qWordHere_86  (FC_X11_isHere (Nat.le_refl _) hq) (Nat.lt_of_lt_of_le (by decide) hd) (fun v s hvs => ?_)
    obtain ⟨hv1, hv2⟩ := hvs; subst hv1; subst hv2
    refine B_X11_qWordHere_94  (fun hc => ?_) (fun hc => ?_)
    · rw [if_pos hc] at h
      obtain ⟨q3, hq, h⟩ := sw_bnd h
      refine B_X11_qWordHere_100  (FC_X11_isHere (Nat.le_refl _) hq) (Nat.lt_of_lt_of_le (by decide) hd) (fun v s hvs => ?_)
      obtain ⟨hv1, hv2⟩ := hvs; subst hv1; subst hv2
      refine B_X11_qWordHere_108  (fun hc => ?_) (fun hc => ?_)
      · rw [if_pos hc] at h
        obtain ⟨q4, hq, h⟩ := sw_bnd h
        refine B_X11_qWordHere_114  (FC_X11_isHere (Nat.le_refl _) hq) (Nat.lt_of_lt_of_le (by decide) hd) (fun v s hvs => ?_)
        obtain ⟨hv1, hv2⟩ := hvs; subst hv1; subst hv2
        refine B_X11_qWordHere_122  (fun hc => ?_) (fun hc => ?_)
        · rw [if_pos hc] at h
          obtain ⟨q5, hq, h⟩ := sw_bnd h
          refine B_X11_qWordHere_128  (FC_X11_isHere (Nat.le_refl _) hq) (Nat.lt_of_lt_of_le (by decide) hd) (fun v s hvs => ?_)
          obtain ⟨hv1, hv2⟩ := hvs; subst hv1; subst hv2
          refine B_X11_qWordHere_136  (fun hc => ?_) (fun hc => ?_)
          · rw [if_pos hc] at h
            obtain ⟨q6, hq, h⟩ := sw_bnd h
            refine B_X11_qWordHere_142  (FC_X11_isHere (Nat.le_refl _) hq) (Nat.lt_of_lt_of_le (by decide) hd) (fun v s hvs => ?_)
            obtain ⟨hv1, hv2⟩ := hvs; subst hv1; subst hv2
            refine B_X11_qWordHere_150  (fun hc => ?_) (fun hc => ?_)
            · rw [if_pos hc] at h
              obtain ⟨q7, hq, h⟩ := sw_bnd h
              refine B_X11_qWordHere_156  (FC_X11_isHere (Nat.le_refl _) hq) (Nat.lt_of_lt_of_le (by decide) hd) (fun v s hvs => ?_)
              obtain ⟨hv1, hv2⟩ := hvs; subst hv1; subst hv2
              refine B_X11_qWordHere_164  (fun hc => ?_) (fun hc => ?_)
              · rw [if_pos hc] at h
                cases h
                exact B_X11_qWordHere_170  ⟨_, rfl, rfl, rfl⟩
              · rw [if_neg hc] at h
                cases h
                exact B_X11_qWordHere_167  ⟨_, rfl, rfl, rfl⟩
            · rw [if_neg hc] at h
              cases h
              exact B_X11_qWordHere_153  ⟨_, rfl, rfl, rfl⟩
          · rw [if_neg hc] at h
            cases h
            exact B_X11_qWordHere_139  ⟨_, rfl, rfl, rfl⟩
        · rw [if_neg hc] at h
          cases h
          exact B_X11_qWordHere_125  ⟨_, rfl, rfl, rfl⟩
      · rw [if_neg hc] at h
        cases h
        exact B_X11_qWordHere_111  ⟨_, rfl, rfl, rfl⟩
    · rw [if_neg hc] at h
      cases h
      exact B_X11_qWordHere_97  ⟨_, rfl, rfl, rfl⟩
  · rw [if_neg hc] at h
    cases h
    exact B_X11_qWordHere_84  ⟨_, rfl, rfl, rfl⟩
noncomputable def F_X11_qWordHere (σ : sw_St) : Option (Int32 × sw_St) :=
  (F_X11_isHere σ 59).bind fun q1 => if q1.1 = 0 then ((F_X11_isHere q1.2 60).bind fun q2 => if q2.1 = 0 then ((F_X11_isHere q2.2 61).bind fun q3 => if q3.1 = 0 then ((F_X11_isHere q3.2 62).bind fun q4 => if q4.1 = 0 then (if 3 ≤ (q4.2.1 0 48) then (S_X11_qWordHere_73 q4.2 ) else ((F_X11_isHere q4.2 63).bind fun q5 => if q5.1 = 0 then (S_X11_qWordHere_73 q5.2 ) else (some (4, q5.2)))) else (some (3, q4.2))) else (some (2, q3.2))) else (some (1, q2.2))) else (some (0, q1.2))
theorem FC_X11_qWordHere {E : sw_E} {d : Nat} (hd : 2 ≤ d) {p : Int32 × sw_St} {σ : sw_St} (h : F_X11_qWordHere σ  = some p) : sw_KI E sw_gM m_X11_qWordHere d [.ref 0] σ (fun v s => v = p.1 ∧ s = p.2) := by
  unfold F_X11_qWordHere at h
  refine sw_K.of (by decide +kernel) rfl (Nat.le_of_ble_eq_true rfl) ?_
  show sw_W E sw_gM m_X11_qWordHere d 0 [(0, .ref 0)] [] σ (sw_pI p)
  obtain ⟨q1, hq, h⟩ := sw_bnd h
  refine B_X11_qWordHere_0  (FC_X11_isHere (Nat.le_refl _) hq) (Nat.lt_of_lt_of_le (by decide) hd) (fun v s hvs => ?_)
  obtain ⟨hv1, hv2⟩ := hvs; subst hv1; subst hv2
  refine B_X11_qWordHere_8  (fun hc => ?_) (fun hc => ?_)
  · rw [if_pos hc] at h
    obtain ⟨q2, hq, h⟩ := sw_bnd h
    refine B_X11_qWordHere_13  (FC_X11_isHere (Nat.le_refl _) hq) (Nat.lt_of_lt_of_le (by decide) hd) (fun v s hvs => ?_)
    obtain ⟨hv1, hv2⟩ := hvs; subst hv1; subst hv2
    refine B_X11_qWordHere_21  (fun hc => ?_) (fun hc => ?_)
    · rw [if_pos hc] at h
      obtain ⟨q3, hq, h⟩ := sw_bnd h
      refine B_X11_qWordHere_26  (FC_X11_isHere (Nat.le_refl _) hq) (Nat.lt_of_lt_of_le (by decide) hd) (fun v s hvs => ?_)
      obtain ⟨hv1, hv2⟩ := hvs; subst hv1; subst hv2
      refine B_X11_qWordHere_34  (fun hc => ?_) (fun hc => ?_)
      · rw [if_pos hc] at h
        obtain ⟨q4, hq, h⟩ := sw_bnd h
        refine B_X11_qWordHere_39  (FC_X11_isHere (Nat.le_refl _) hq) (Nat.lt_of_lt_of_le (by decide) hd) (fun v s hvs => ?_)
        obtain ⟨hv1, hv2⟩ := hvs; subst hv1; subst hv2
        refine B_X11_qWordHere_47  (fun hc => ?_) (fun hc => ?_)
        · rw [if_pos hc] at h
          refine B_X11_qWordHere_52  (fun hc => ?_) (fun hc => ?_)
          · rw [if_pos hc] at h
            exact SC_X11_qWordHere_73 hd h
          · rw [if_neg hc] at h
            obtain ⟨q5, hq, h⟩ := sw_bnd h
            refine B_X11_qWordHere_60  (FC_X11_isHere (Nat.le_refl _) hq) (Nat.lt_of_lt_of_le (by decide) hd) (fun v s hvs => ?_)
            obtain ⟨hv1, hv2⟩ := hvs; subst hv1; subst hv2
            refine B_X11_qWordHere_68  (fun hc => ?_) (fun hc => ?_)
            · rw [if_pos hc] at h
              exact SC_X11_qWordHere_73 hd h
            · rw [if_neg hc] at h
              cases h
              exact B_X11_qWordHere_71  ⟨_, rfl, rfl, rfl⟩
        · rw [if_neg hc] at h
          cases h
          exact B_X11_qWordHere_50  ⟨_, rfl, rfl, rfl⟩
      · rw [if_neg hc] at h
        cases h
        exact B_X11_qWordHere_37  ⟨_, rfl, rfl, rfl⟩
    · rw [if_neg hc] at h
      cases h
      exact B_X11_qWordHere_24  ⟨_, rfl, rfl, rfl⟩
  · rw [if_neg hc] at h
    cases h
    exact B_X11_qWordHere_11  ⟨_, rfl, rfl, rfl⟩
/-! StrayWoolModel.qWordOf(II)I -/
noncomputable def S_X11_qWordOf_28 (σ : sw_St) (sx0 : Int32) : Option (Int32 × sw_St) :=
  some (sx0, σ)
theorem SC_X11_qWordOf_28 {E : sw_E} {d : Nat} (hd : 3 ≤ d) {p : Int32 × sw_St} {σ : sw_St} {sx0 : Int32} (h : S_X11_qWordOf_28 σ sx0 = some p) : sw_W E sw_gM m_X11_qWordOf d 28 [] [.int sx0] σ (sw_pI p) := by
  unfold S_X11_qWordOf_28 at h
  cases h
  exact B_X11_qWordOf_28  ⟨_, rfl, rfl, rfl⟩
noncomputable def S_X11_qWordOf_27 (σ : sw_St) : Option (Int32 × sw_St) :=
  S_X11_qWordOf_28 σ (-1)
theorem SC_X11_qWordOf_27 {E : sw_E} {d : Nat} (hd : 3 ≤ d) {p : Int32 × sw_St} {σ : sw_St} (h : S_X11_qWordOf_27 σ  = some p) : sw_W E sw_gM m_X11_qWordOf d 27 [] [] σ (sw_pI p) := by
  unfold S_X11_qWordOf_27 at h
  refine B_X11_qWordOf_27  ?_
  exact SC_X11_qWordOf_28 hd h
noncomputable def F_X11_qWordOf (σ : sw_St) (x1 : Int32) (x2 : Int32) : Option (Int32 × sw_St) :=
  (F_X11_qWordHere σ ).bind fun q1 => if q1.1 < x1 then (S_X11_qWordOf_27 q1.2 ) else (if x2 ≤ q1.1 then (S_X11_qWordOf_27 q1.2 ) else ((F_X11_isAllowed q1.2 q1.1).bind fun q2 => if q2.1 = 0 then (S_X11_qWordOf_27 q2.2 ) else (S_X11_qWordOf_28 q2.2 q1.1)))
theorem FC_X11_qWordOf {E : sw_E} {d : Nat} (hd : 3 ≤ d) {p : Int32 × sw_St} {σ : sw_St} {x1 : Int32} {x2 : Int32} (h : F_X11_qWordOf σ x1 x2 = some p) : sw_KI E sw_gM m_X11_qWordOf d [.ref 0, .int x1, .int x2] σ (fun v s => v = p.1 ∧ s = p.2) := by
  unfold F_X11_qWordOf at h
  refine sw_K.of (by decide +kernel) rfl (Nat.le_of_ble_eq_true rfl) ?_
  show sw_W E sw_gM m_X11_qWordOf d 0 [(0, .ref 0), (1, .int x1), (2, .int x2)] [] σ (sw_pI p)
  obtain ⟨q1, hq, h⟩ := sw_bnd h
  refine B_X11_qWordOf_0  (FC_X11_qWordHere (Nat.le_refl _) hq) (Nat.lt_of_lt_of_le (by decide) hd) (fun v s hvs => ?_)
  obtain ⟨hv1, hv2⟩ := hvs; subst hv1; subst hv2
  refine B_X11_qWordOf_4  (fun hc => ?_) (fun hc => ?_)
  · rw [if_pos hc] at h
    exact SC_X11_qWordOf_27 hd h
  · rw [if_neg hc] at h
    refine B_X11_qWordOf_10  (fun hc => ?_) (fun hc => ?_)
    · rw [if_pos hc] at h
      exact SC_X11_qWordOf_27 hd h
    · rw [if_neg hc] at h
      obtain ⟨q2, hq, h⟩ := sw_bnd h
      refine B_X11_qWordOf_15  (FC_X11_isAllowed (Nat.le_refl _) hq) (Nat.lt_of_lt_of_le (by decide) hd) (fun v s hvs => ?_)
      obtain ⟨hv1, hv2⟩ := hvs; subst hv1; subst hv2
      refine B_X11_qWordOf_20  (fun hc => ?_) (fun hc => ?_)
      · rw [if_pos hc] at h
        exact SC_X11_qWordOf_27 hd h
      · rw [if_neg hc] at h
        refine B_X11_qWordOf_23  ?_
        exact SC_X11_qWordOf_28 hd h
/-! StrayWoolModel.qAsksWord(I)V -/
noncomputable def S_X11_qAsksWord_189 (σ : sw_St) : Option (Unit × sw_St) :=
  some ((), σ)
theorem SC_X11_qAsksWord_189 {E : sw_E} {d : Nat} (hd : 4 ≤ d) {p : Unit × sw_St} {σ : sw_St} (h : S_X11_qAsksWord_189 σ  = some p) : sw_W E sw_gM m_X11_qAsksWord d 189 [] [] σ (sw_pV p) := by
  unfold S_X11_qAsksWord_189 at h
  cases h
  exact B_X11_qAsksWord_189  ⟨rfl, rfl⟩
noncomputable def F_X11_qAsksWord (σ : sw_St) (x1 : Int32) : Option (Unit × sw_St) :=
  if x1 = 0 then ((F_X11_asks σ 59).bind fun q1 => S_X11_qAsksWord_189 q1.2 ) else if x1 = 1 then ((F_X11_asks σ 60).bind fun q2 => S_X11_qAsksWord_189 q2.2 ) else if x1 = 2 then ((F_X11_asks σ 61).bind fun q3 => S_X11_qAsksWord_189 q3.2 ) else if x1 = 3 then ((F_X11_asks σ 62).bind fun q4 => S_X11_qAsksWord_189 q4.2 ) else if x1 = 4 then ((F_X11_asks σ 63).bind fun q5 => S_X11_qAsksWord_189 q5.2 ) else if x1 = 5 then ((F_X11_asks σ 64).bind fun q6 => S_X11_qAsksWord_189 q6.2 ) else if x1 = 6 then ((F_X11_asks σ 65).bind fun q7 => S_X11_qAsksWord_189 q7.2 ) else if x1 = 7 then ((F_X11_asks σ 66).bind fun q8 => S_X11_qAsksWord_189 q8.2 ) else if x1 = 8 then ((F_X11_asks σ 67).bind fun q9 => S_X11_qAsksWord_189 q9.2 ) else if x1 = 9 then ((F_X11_asks σ 68).bind fun q10 => S_X11_qAsksWord_189 q10.2 ) else if x1 = 10 then ((F_X11_asks σ 69).bind fun q11 => S_X11_qAsksWord_189 q11.2 ) else ((F_X11_asks σ 70).bind fun q12 => S_X11_qAsksWord_189 q12.2 )
theorem FC_X11_qAsksWord {E : sw_E} {d : Nat} (hd : 4 ≤ d) {p : Unit × sw_St} {σ : sw_St} {x1 : Int32} (h : F_X11_qAsksWord σ x1 = some p) : sw_KV E sw_gM m_X11_qAsksWord d [.ref 0, .int x1] σ (fun s => s = p.2) := by
  unfold F_X11_qAsksWord at h
  refine sw_K.of (by decide +kernel) rfl (Nat.le_of_ble_eq_true rfl) ?_
  show sw_W E sw_gM m_X11_qAsksWord d 0 [(0, .ref 0), (1, .int x1)] [] σ (sw_pV p)
  refine B_X11_qAsksWord_0  (fun hc => ?_) (fun hc => ?_) (fun hc => ?_) (fun hc => ?_) (fun hc => ?_) (fun hc => ?_) (fun hc => ?_) (fun hc => ?_) (fun hc => ?_) (fun hc => ?_) (fun hc => ?_) (fun n0 n1 n2 n3 n4 n5 n6 n7 n8 n9 n10 => ?_)
  · rw [if_pos hc] at h
    obtain ⟨q1, hq, h⟩ := sw_bnd h
    refine B_X11_qAsksWord_60  (FC_X11_asks (Nat.le_refl _) hq) (Nat.lt_of_lt_of_le (by decide) hd) (fun s hvs => ?_)
    subst hvs
    refine B_X11_qAsksWord_68  ?_
    exact SC_X11_qAsksWord_189 hd h
  · rw [if_neg (fun z => absurd (hc.symm.trans z) (by decide)), if_pos hc] at h
    obtain ⟨q2, hq, h⟩ := sw_bnd h
    refine B_X11_qAsksWord_71  (FC_X11_asks (Nat.le_refl _) hq) (Nat.lt_of_lt_of_le (by decide) hd) (fun s hvs => ?_)
    subst hvs
    refine B_X11_qAsksWord_79  ?_
    exact SC_X11_qAsksWord_189 hd h
  · rw [if_neg (fun z => absurd (hc.symm.trans z) (by decide)), if_neg (fun z => absurd (hc.symm.trans z) (by decide)), if_pos hc] at h
    obtain ⟨q3, hq, h⟩ := sw_bnd h
    refine B_X11_qAsksWord_82  (FC_X11_asks (Nat.le_refl _) hq) (Nat.lt_of_lt_of_le (by decide) hd) (fun s hvs => ?_)
    subst hvs
    refine B_X11_qAsksWord_90  ?_
    exact SC_X11_qAsksWord_189 hd h
  · rw [if_neg (fun z => absurd (hc.symm.trans z) (by decide)), if_neg (fun z => absurd (hc.symm.trans z) (by decide)), if_neg (fun z => absurd (hc.symm.trans z) (by decide)), if_pos hc] at h
    obtain ⟨q4, hq, h⟩ := sw_bnd h
    refine B_X11_qAsksWord_93  (FC_X11_asks (Nat.le_refl _) hq) (Nat.lt_of_lt_of_le (by decide) hd) (fun s hvs => ?_)
    subst hvs
    refine B_X11_qAsksWord_101  ?_
    exact SC_X11_qAsksWord_189 hd h
  · rw [if_neg (fun z => absurd (hc.symm.trans z) (by decide)), if_neg (fun z => absurd (hc.symm.trans z) (by decide)), if_neg (fun z => absurd (hc.symm.trans z) (by decide)), if_neg (fun z => absurd (hc.symm.trans z) (by decide)), if_pos hc] at h
    obtain ⟨q5, hq, h⟩ := sw_bnd h
    refine B_X11_qAsksWord_104  (FC_X11_asks (Nat.le_refl _) hq) (Nat.lt_of_lt_of_le (by decide) hd) (fun s hvs => ?_)
    subst hvs
    refine B_X11_qAsksWord_112  ?_
    exact SC_X11_qAsksWord_189 hd h
  · rw [if_neg (fun z => absurd (hc.symm.trans z) (by decide)), if_neg (fun z => absurd (hc.symm.trans z) (by decide)), if_neg (fun z => absurd (hc.symm.trans z) (by decide)), if_neg (fun z => absurd (hc.symm.trans z) (by decide)), if_neg (fun z => absurd (hc.symm.trans z) (by decide)), if_pos hc] at h
    obtain ⟨q6, hq, h⟩ := sw_bnd h
    refine B_X11_qAsksWord_115  (FC_X11_asks (Nat.le_refl _) hq) (Nat.lt_of_lt_of_le (by decide) hd) (fun s hvs => ?_)
    subst hvs
    refine B_X11_qAsksWord_123  ?_
    exact SC_X11_qAsksWord_189 hd h
  · rw [if_neg (fun z => absurd (hc.symm.trans z) (by decide)), if_neg (fun z => absurd (hc.symm.trans z) (by decide)), if_neg (fun z => absurd (hc.symm.trans z) (by decide)), if_neg (fun z => absurd (hc.symm.trans z) (by decide)), if_neg (fun z => absurd (hc.symm.trans z) (by decide)), if_neg (fun z => absurd (hc.symm.trans z) (by decide)), if_pos hc] at h
    obtain ⟨q7, hq, h⟩ := sw_bnd h
    refine B_X11_qAsksWord_126  (FC_X11_asks (Nat.le_refl _) hq) (Nat.lt_of_lt_of_le (by decide) hd) (fun s hvs => ?_)
    subst hvs
    refine B_X11_qAsksWord_134  ?_
    exact SC_X11_qAsksWord_189 hd h
  · rw [if_neg (fun z => absurd (hc.symm.trans z) (by decide)), if_neg (fun z => absurd (hc.symm.trans z) (by decide)), if_neg (fun z => absurd (hc.symm.trans z) (by decide)), if_neg (fun z => absurd (hc.symm.trans z) (by decide)), if_neg (fun z => absurd (hc.symm.trans z) (by decide)), if_neg (fun z => absurd (hc.symm.trans z) (by decide)), if_neg (fun z => absurd (hc.symm.trans z) (by decide)), if_pos hc] at h
    obtain ⟨q8, hq, h⟩ := sw_bnd h
    refine B_X11_qAsksWord_137  (FC_X11_asks (Nat.le_refl _) hq) (Nat.lt_of_lt_of_le (by decide) hd) (fun s hvs => ?_)
    subst hvs
    refine B_X11_qAsksWord_145  ?_
    exact SC_X11_qAsksWord_189 hd h
  · rw [if_neg (fun z => absurd (hc.symm.trans z) (by decide)), if_neg (fun z => absurd (hc.symm.trans z) (by decide)), if_neg (fun z => absurd (hc.symm.trans z) (by decide)), if_neg (fun z => absurd (hc.symm.trans z) (by decide)), if_neg (fun z => absurd (hc.symm.trans z) (by decide)), if_neg (fun z => absurd (hc.symm.trans z) (by decide)), if_neg (fun z => absurd (hc.symm.trans z) (by decide)), if_neg (fun z => absurd (hc.symm.trans z) (by decide)), if_pos hc] at h
    obtain ⟨q9, hq, h⟩ := sw_bnd h
    refine B_X11_qAsksWord_148  (FC_X11_asks (Nat.le_refl _) hq) (Nat.lt_of_lt_of_le (by decide) hd) (fun s hvs => ?_)
    subst hvs
    refine B_X11_qAsksWord_156  ?_
    exact SC_X11_qAsksWord_189 hd h
  · rw [if_neg (fun z => absurd (hc.symm.trans z) (by decide)), if_neg (fun z => absurd (hc.symm.trans z) (by decide)), if_neg (fun z => absurd (hc.symm.trans z) (by decide)), if_neg (fun z => absurd (hc.symm.trans z) (by decide)), if_neg (fun z => absurd (hc.symm.trans z) (by decide)), if_neg (fun z => absurd (hc.symm.trans z) (by decide)), if_neg (fun z => absurd (hc.symm.trans z) (by decide)), if_neg (fun z => absurd (hc.symm.trans z) (by decide)), if_neg (fun z => absurd (hc.symm.trans z) (by decide)), if_pos hc] at h
    obtain ⟨q10, hq, h⟩ := sw_bnd h
    refine B_X11_qAsksWord_159  (FC_X11_asks (Nat.le_refl _) hq) (Nat.lt_of_lt_of_le (by decide) hd) (fun s hvs => ?_)
    subst hvs
    refine B_X11_qAsksWord_167  ?_
    exact SC_X11_qAsksWord_189 hd h
  · rw [if_neg (fun z => absurd (hc.symm.trans z) (by decide)), if_neg (fun z => absurd (hc.symm.trans z) (by decide)), if_neg (fun z => absurd (hc.symm.trans z) (by decide)), if_neg (fun z => absurd (hc.symm.trans z) (by decide)), if_neg (fun z => absurd (hc.symm.trans z) (by decide)), if_neg (fun z => absurd (hc.symm.trans z) (by decide)), if_neg (fun z => absurd (hc.symm.trans z) (by decide)), if_neg (fun z => absurd (hc.symm.trans z) (by decide)), if_neg (fun z => absurd (hc.symm.trans z) (by decide)), if_neg (fun z => absurd (hc.symm.trans z) (by decide)), if_pos hc] at h
    obtain ⟨q11, hq, h⟩ := sw_bnd h
    refine B_X11_qAsksWord_170  (FC_X11_asks (Nat.le_refl _) hq) (Nat.lt_of_lt_of_le (by decide) hd) (fun s hvs => ?_)
    subst hvs
    refine B_X11_qAsksWord_178  ?_
    exact SC_X11_qAsksWord_189 hd h
  · rw [if_neg n0, if_neg n1, if_neg n2, if_neg n3, if_neg n4, if_neg n5, if_neg n6, if_neg n7, if_neg n8, if_neg n9, if_neg n10] at h
    obtain ⟨q12, hq, h⟩ := sw_bnd h
    refine B_X11_qAsksWord_181  (FC_X11_asks (Nat.le_refl _) hq) (Nat.lt_of_lt_of_le (by decide) hd) (fun s hvs => ?_)
    subst hvs
    exact SC_X11_qAsksWord_189 hd h
/-! StrayWoolModel.qEndsPart()V -/
noncomputable def S_X11_qEndsPart_51 (σ : sw_St) : Option (Unit × sw_St) :=
  some ((), σ)
theorem SC_X11_qEndsPart_51 {E : sw_E} {d : Nat} (hd : 2 ≤ d) {p : Unit × sw_St} {σ : sw_St} (h : S_X11_qEndsPart_51 σ  = some p) : sw_W E sw_gM m_X11_qEndsPart d 51 [] [] σ (sw_pV p) := by
  unfold S_X11_qEndsPart_51 at h
  cases h
  exact B_X11_qEndsPart_51  ⟨rfl, rfl⟩
noncomputable def S_X11_qEndsPart_0 (c0 : sw_St → Option (Unit × sw_St)) (σ : sw_St) : Option (Unit × sw_St) :=
  if (σ.1 0 5) = 0 then (if (σ.1 0 97) ≤ (σ.1 0 99) then (S_X11_qEndsPart_51 σ ) else (if sw_inb ((σ.1 0 97) - 1) 1700 = true then (if (σ.1 72 (((σ.1 0 97) - 1).toNatClampNeg)) < 60 then (S_X11_qEndsPart_51 σ ) else ((F_X11_qDrops (sw_uI σ 0 98 ((σ.1 0 98) - 1)) ).bind fun q2 => c0 q2.2 )) else none)) else (S_X11_qEndsPart_51 σ )
theorem SC_X11_qEndsPart_0 {E : sw_E} {d : Nat} (hd : 2 ≤ d) {p : Unit × sw_St} {c0 : sw_St → Option (Unit × sw_St)} (h0 : ∀ (σ : sw_St), c0 σ  = some p → sw_W E sw_gM m_X11_qEndsPart d 0 [(0, .ref 0)] [] σ (sw_pV p)) {σ : sw_St} (h : S_X11_qEndsPart_0 c0 σ  = some p) : sw_W E sw_gM m_X11_qEndsPart d 0 [(0, .ref 0)] [] σ (sw_pV p) := by
  unfold S_X11_qEndsPart_0 at h
  refine B_X11_qEndsPart_0  (fun hc => ?_) (fun hc => ?_)
  · rw [if_neg hc] at h
    exact SC_X11_qEndsPart_51 hd h
  · rw [if_pos hc] at h
    refine B_X11_qEndsPart_7  (fun hc => ?_) (fun hc => ?_)
    · rw [if_pos hc] at h
      exact SC_X11_qEndsPart_51 hd h
    · rw [if_neg hc] at h
      obtain ⟨o1, h⟩ := sw_ifs h
      refine B_X11_qEndsPart_18 (sw_inb_sp o1) (fun hc => ?_) (fun hc => ?_)
      · rw [if_pos hc] at h
        exact SC_X11_qEndsPart_51 hd h
      · rw [if_neg hc] at h
        obtain ⟨q2, hq, h⟩ := sw_bnd h
        refine B_X11_qEndsPart_34  (FC_X11_qDrops (Nat.le_refl _) hq) (Nat.lt_of_lt_of_le (by decide) hd) (fun s hvs => ?_)
        subst hvs
        refine B_X11_qEndsPart_48  ?_
        exact h0 _  h
noncomputable def L_X11_qEndsPart_0 : Nat → sw_St → Option (Unit × sw_St)
  | 0, _ => none
  | k + 1, σ => S_X11_qEndsPart_0 (fun σ => L_X11_qEndsPart_0 k σ ) σ 
theorem LC_X11_qEndsPart_0 {E : sw_E} {d : Nat} (hd : 2 ≤ d) {p : Unit × sw_St} : ∀ (k : Nat) (σ : sw_St), L_X11_qEndsPart_0 k σ  = some p → sw_W E sw_gM m_X11_qEndsPart d 0 [(0, .ref 0)] [] σ (sw_pV p) := by
  intro k
  induction k with
  | zero => intro σ h; cases h
  | succ k ih => intro σ h; exact SC_X11_qEndsPart_0 hd ih h
noncomputable def F_X11_qEndsPart (σ : sw_St) : Option (Unit × sw_St) :=
  L_X11_qEndsPart_0 sw_fuel σ 
theorem FC_X11_qEndsPart {E : sw_E} {d : Nat} (hd : 2 ≤ d) {p : Unit × sw_St} {σ : sw_St} (h : F_X11_qEndsPart σ  = some p) : sw_KV E sw_gM m_X11_qEndsPart d [.ref 0] σ (fun s => s = p.2) := by
  unfold F_X11_qEndsPart at h
  refine sw_K.of (by decide +kernel) rfl (Nat.le_of_ble_eq_true rfl) ?_
  show sw_W E sw_gM m_X11_qEndsPart d 0 [(0, .ref 0)] [] σ (sw_pV p)
  exact LC_X11_qEndsPart_0 hd _ _  h
/-! StrayWoolModel.qPartTold()V -/
noncomputable def S_X11_qPartTold_237 (σ : sw_St) (sx0 : Int32) : Option (Unit × sw_St) :=
  (F_X11_qCode σ sx0).bind fun q1 => (F_X11_qEndsPart q1.2 ).bind fun q2 => some ((), q2.2)
theorem SC_X11_qPartTold_237 {E : sw_E} {d : Nat} (hd : 5 ≤ d) {p : Unit × sw_St} {σ : sw_St} {sx0 : Int32} (h : S_X11_qPartTold_237 σ sx0 = some p) : sw_W E sw_gM m_X11_qPartTold d 237 [(0, .ref 0)] [.int sx0, .ref 0] σ (sw_pV p) := by
  unfold S_X11_qPartTold_237 at h
  obtain ⟨q1, hq, h⟩ := sw_bnd h
  refine B_X11_qPartTold_237  (FC_X11_qCode (Nat.le_refl _) hq) (Nat.lt_of_lt_of_le (by decide) hd) (fun s hvs => ?_)
  subst hvs
  obtain ⟨q2, hq, h⟩ := sw_bnd h
  refine B_X11_qPartTold_240  (FC_X11_qEndsPart (Nat.le_refl _) hq) (Nat.lt_of_lt_of_le (by decide) hd) (fun s hvs => ?_)
  subst hvs
  cases h
  exact B_X11_qPartTold_244  ⟨rfl, rfl⟩
noncomputable def S_X11_qPartTold_212 (σ : sw_St) (x2 : Int32) : Option (Unit × sw_St) :=
  if x2 = (-1) then ((F_X11_number σ 0 9999).bind fun q1 => S_X11_qPartTold_237 q1.2 (1000 + q1.1)) else (S_X11_qPartTold_237 σ (40 + x2))
theorem SC_X11_qPartTold_212 {E : sw_E} {d : Nat} (hd : 5 ≤ d) {p : Unit × sw_St} {σ : sw_St} {x2 : Int32} (h : S_X11_qPartTold_212 σ x2 = some p) : sw_W E sw_gM m_X11_qPartTold d 212 [(0, .ref 0), (2, .int x2)] [] σ (sw_pV p) := by
  unfold S_X11_qPartTold_212 at h
  refine B_X11_qPartTold_212  (fun hc => ?_) (fun hc => ?_)
  · rw [if_pos hc] at h
    obtain ⟨q1, hq, h⟩ := sw_bnd h
    refine B_X11_qPartTold_225  (FC_X11_number (Nat.le_refl _) hq) (Nat.lt_of_lt_of_le (by decide) hd) (fun v s hvs => ?_)
    obtain ⟨hv1, hv2⟩ := hvs; subst hv1; subst hv2
    refine B_X11_qPartTold_236  ?_
    exact SC_X11_qPartTold_237 hd h
  · rw [if_neg hc] at h
    refine B_X11_qPartTold_218  ?_
    exact SC_X11_qPartTold_237 hd h
noncomputable def S_X11_qPartTold_186 (σ : sw_St) : Option (Unit × sw_St) :=
  if (σ.1 0 5) = 0 then ((F_X11_qWordOf σ 0 10).bind fun q1 => if q1.1 = (-1) then (S_X11_qPartTold_212 q1.2 q1.1) else ((F_X11_qAsksWord q1.2 q1.1).bind fun q2 => S_X11_qPartTold_212 q2.2 q1.1)) else (some ((), σ))
theorem SC_X11_qPartTold_186 {E : sw_E} {d : Nat} (hd : 5 ≤ d) {p : Unit × sw_St} {σ : sw_St} (h : S_X11_qPartTold_186 σ  = some p) : sw_W E sw_gM m_X11_qPartTold d 186 [(0, .ref 0)] [] σ (sw_pV p) := by
  unfold S_X11_qPartTold_186 at h
  refine B_X11_qPartTold_186  (fun hc => ?_) (fun hc => ?_)
  · rw [if_pos hc] at h
    obtain ⟨q1, hq, h⟩ := sw_bnd h
    refine B_X11_qPartTold_194  (FC_X11_qWordOf (Nat.le_refl _) hq) (Nat.lt_of_lt_of_le (by decide) hd) (fun v s hvs => ?_)
    obtain ⟨hv1, hv2⟩ := hvs; subst hv1; subst hv2
    refine B_X11_qPartTold_201  (fun hc => ?_) (fun hc => ?_)
    · rw [if_pos hc] at h
      exact SC_X11_qPartTold_212 hd h
    · rw [if_neg hc] at h
      obtain ⟨q2, hq, h⟩ := sw_bnd h
      refine B_X11_qPartTold_207  (FC_X11_qAsksWord (Nat.le_refl _) hq) (Nat.lt_of_lt_of_le (by decide) hd) (fun s hvs => ?_)
      subst hvs
      exact SC_X11_qPartTold_212 hd h
  · rw [if_neg hc] at h
    cases h
    exact B_X11_qPartTold_193  ⟨rfl, rfl⟩
noncomputable def S_X11_qPartTold_183 (c2 : sw_St → Int32 → Option (Unit × sw_St)) (σ : sw_St) (x1 : Int32) : Option (Unit × sw_St) :=
  c2 σ x1
theorem SC_X11_qPartTold_183 {E : sw_E} {d : Nat} (hd : 5 ≤ d) {p : Unit × sw_St} {c2 : sw_St → Int32 → Option (Unit × sw_St)} (h2 : ∀ (σ : sw_St) (x1 : Int32), c2 σ x1 = some p → sw_W E sw_gM m_X11_qPartTold d 2 [(0, .ref 0), (1, .int x1)] [] σ (sw_pV p)) {σ : sw_St} {x1 : Int32} (h : S_X11_qPartTold_183 c2 σ x1 = some p) : sw_W E sw_gM m_X11_qPartTold d 183 [(0, .ref 0), (1, .int x1)] [] σ (sw_pV p) := by
  unfold S_X11_qPartTold_183 at h
  refine B_X11_qPartTold_183  ?_
  exact h2 _ _ h
noncomputable def S_X11_qPartTold_144 (c2 : sw_St → Int32 → Option (Unit × sw_St)) (σ : sw_St) (x1 : Int32) : Option (Unit × sw_St) :=
  (F_X11_asksSign σ 40).bind fun q1 => S_X11_qPartTold_183 c2 q1.2 x1
theorem SC_X11_qPartTold_144 {E : sw_E} {d : Nat} (hd : 5 ≤ d) {p : Unit × sw_St} {c2 : sw_St → Int32 → Option (Unit × sw_St)} (h2 : ∀ (σ : sw_St) (x1 : Int32), c2 σ x1 = some p → sw_W E sw_gM m_X11_qPartTold d 2 [(0, .ref 0), (1, .int x1)] [] σ (sw_pV p)) {σ : sw_St} {x1 : Int32} (h : S_X11_qPartTold_144 c2 σ x1 = some p) : sw_W E sw_gM m_X11_qPartTold d 144 [(0, .ref 0), (1, .int x1)] [] σ (sw_pV p) := by
  unfold S_X11_qPartTold_144 at h
  obtain ⟨q1, hq, h⟩ := sw_bnd h
  refine B_X11_qPartTold_144  (FC_X11_asksSign (Nat.le_refl _) hq) (Nat.lt_of_lt_of_le (by decide) hd) (fun s hvs => ?_)
  subst hvs
  refine B_X11_qPartTold_150  ?_
  exact SC_X11_qPartTold_183 hd h2 h
noncomputable def S_X11_qPartTold_139 (c2 : sw_St → Int32 → Option (Unit × sw_St)) (σ : sw_St) (x1 : Int32) (x5 : Int32) (sx0 : Int32) : Option (Unit × sw_St) :=
  (F_X11_qOpens σ sx0 x5).bind fun q1 => S_X11_qPartTold_144 c2 q1.2 x1
theorem SC_X11_qPartTold_139 {E : sw_E} {d : Nat} (hd : 5 ≤ d) {p : Unit × sw_St} {c2 : sw_St → Int32 → Option (Unit × sw_St)} (h2 : ∀ (σ : sw_St) (x1 : Int32), c2 σ x1 = some p → sw_W E sw_gM m_X11_qPartTold d 2 [(0, .ref 0), (1, .int x1)] [] σ (sw_pV p)) {σ : sw_St} {x1 : Int32} {x5 : Int32} {sx0 : Int32} (h : S_X11_qPartTold_139 c2 σ x1 x5 sx0 = some p) : sw_W E sw_gM m_X11_qPartTold d 139 [(0, .ref 0), (1, .int x1), (5, .int x5)] [.int sx0, .ref 0] σ (sw_pV p) := by
  unfold S_X11_qPartTold_139 at h
  obtain ⟨q1, hq, h⟩ := sw_bnd h
  refine B_X11_qPartTold_139  (FC_X11_qOpens (Nat.le_refl _) hq) (Nat.lt_of_lt_of_le (by decide) hd) (fun s hvs => ?_)
  subst hvs
  exact SC_X11_qPartTold_144 hd h2 h
noncomputable def S_X11_qPartTold_118 (c2 : sw_St → Int32 → Option (Unit × sw_St)) (σ : sw_St) (x1 : Int32) (x4 : Int32) (sx0 : Int32) : Option (Unit × sw_St) :=
  if sx0 = (-1) then (S_X11_qPartTold_144 c2 σ x1) else (if x4 = 0 then (S_X11_qPartTold_139 c2 σ x1 sx0 22) else (S_X11_qPartTold_139 c2 σ x1 sx0 21))
theorem SC_X11_qPartTold_118 {E : sw_E} {d : Nat} (hd : 5 ≤ d) {p : Unit × sw_St} {c2 : sw_St → Int32 → Option (Unit × sw_St)} (h2 : ∀ (σ : sw_St) (x1 : Int32), c2 σ x1 = some p → sw_W E sw_gM m_X11_qPartTold d 2 [(0, .ref 0), (1, .int x1)] [] σ (sw_pV p)) {σ : sw_St} {x1 : Int32} {x4 : Int32} {sx0 : Int32} (h : S_X11_qPartTold_118 c2 σ x1 x4 sx0 = some p) : sw_W E sw_gM m_X11_qPartTold d 118 [(0, .ref 0), (1, .int x1), (4, .int x4)] [.int sx0] σ (sw_pV p) := by
  unfold S_X11_qPartTold_118 at h
  refine B_X11_qPartTold_118  (fun hc => ?_) (fun hc => ?_)
  · rw [if_pos hc] at h
    exact SC_X11_qPartTold_144 hd h2 h
  · rw [if_neg hc] at h
    refine B_X11_qPartTold_126  (fun hc => ?_) (fun hc => ?_)
    · rw [if_pos hc] at h
      refine B_X11_qPartTold_137  ?_
      exact SC_X11_qPartTold_139 hd h2 h
    · rw [if_neg hc] at h
      refine B_X11_qPartTold_132  ?_
      exact SC_X11_qPartTold_139 hd h2 h
noncomputable def S_X11_qPartTold_101 (c2 : sw_St → Int32 → Option (Unit × sw_St)) (σ : sw_St) (x1 : Int32) (x4 : Int32) : Option (Unit × sw_St) :=
  (F_X11_look σ ).bind fun q1 => if q1.1 = 40 then (S_X11_qPartTold_118 c2 q1.2 x1 x4 (q1.2.1 0 2)) else (S_X11_qPartTold_118 c2 q1.2 x1 x4 (-1))
theorem SC_X11_qPartTold_101 {E : sw_E} {d : Nat} (hd : 5 ≤ d) {p : Unit × sw_St} {c2 : sw_St → Int32 → Option (Unit × sw_St)} (h2 : ∀ (σ : sw_St) (x1 : Int32), c2 σ x1 = some p → sw_W E sw_gM m_X11_qPartTold d 2 [(0, .ref 0), (1, .int x1)] [] σ (sw_pV p)) {σ : sw_St} {x1 : Int32} {x4 : Int32} (h : S_X11_qPartTold_101 c2 σ x1 x4 = some p) : sw_W E sw_gM m_X11_qPartTold d 101 [(0, .ref 0), (1, .int x1), (4, .int x4)] [] σ (sw_pV p) := by
  unfold S_X11_qPartTold_101 at h
  obtain ⟨q1, hq, h⟩ := sw_bnd h
  refine B_X11_qPartTold_101  (FC_X11_look (Nat.le_refl _) hq) (Nat.lt_of_lt_of_le (by decide) hd) (fun v s hvs => ?_)
  obtain ⟨hv1, hv2⟩ := hvs; subst hv1; subst hv2
  refine B_X11_qPartTold_105  (fun hc => ?_) (fun hc => ?_)
  · rw [if_neg hc] at h
    refine B_X11_qPartTold_117  ?_
    exact SC_X11_qPartTold_118 hd h2 h
  · rw [if_pos hc] at h
    refine B_X11_qPartTold_110  ?_
    exact SC_X11_qPartTold_118 hd h2 h
noncomputable def S_X11_qPartTold_78 (c2 : sw_St → Int32 → Option (Unit × sw_St)) (σ : sw_St) (x1 : Int32) : Option (Unit × sw_St) :=
  (F_X11_takes σ 57).bind fun q1 => if q1.1 = 0 then ((F_X11_asks q1.2 58).bind fun q2 => S_X11_qPartTold_101 c2 q2.2 x1 q1.1) else (S_X11_qPartTold_101 c2 q1.2 x1 q1.1)
theorem SC_X11_qPartTold_78 {E : sw_E} {d : Nat} (hd : 5 ≤ d) {p : Unit × sw_St} {c2 : sw_St → Int32 → Option (Unit × sw_St)} (h2 : ∀ (σ : sw_St) (x1 : Int32), c2 σ x1 = some p → sw_W E sw_gM m_X11_qPartTold d 2 [(0, .ref 0), (1, .int x1)] [] σ (sw_pV p)) {σ : sw_St} {x1 : Int32} (h : S_X11_qPartTold_78 c2 σ x1 = some p) : sw_W E sw_gM m_X11_qPartTold d 78 [(0, .ref 0), (1, .int x1)] [] σ (sw_pV p) := by
  unfold S_X11_qPartTold_78 at h
  obtain ⟨q1, hq, h⟩ := sw_bnd h
  refine B_X11_qPartTold_78  (FC_X11_takes (Nat.le_refl _) hq) (Nat.lt_of_lt_of_le (by decide) hd) (fun v s hvs => ?_)
  obtain ⟨hv1, hv2⟩ := hvs; subst hv1; subst hv2
  refine B_X11_qPartTold_86  (fun hc => ?_) (fun hc => ?_)
  · rw [if_neg hc] at h
    exact SC_X11_qPartTold_101 hd h2 h
  · rw [if_pos hc] at h
    obtain ⟨q2, hq, h⟩ := sw_bnd h
    refine B_X11_qPartTold_93  (FC_X11_asks (Nat.le_refl _) hq) (Nat.lt_of_lt_of_le (by decide) hd) (fun s hvs => ?_)
    subst hvs
    exact SC_X11_qPartTold_101 hd h2 h
noncomputable def S_X11_qPartTold_2 (c2 : sw_St → Int32 → Option (Unit × sw_St)) (σ : sw_St) (x1 : Int32) : Option (Unit × sw_St) :=
  if x1 = 0 then (S_X11_qPartTold_186 σ ) else (if (σ.1 0 5) = 0 then ((F_X11_look σ ).bind fun q1 => (F_X11_qWordOf q1.2 10 12).bind fun q2 => if q1.1 = 40 then ((F_X11_qOpens q2.2 20 (q2.2.1 0 2)).bind fun q7 => S_X11_qPartTold_183 c2 (sw_uI q7.2 0 2 ((q7.2.1 0 2) + 1)) x1) else ((F_X11_isHere q2.2 57).bind fun q3 => if q3.1 = 0 then ((F_X11_isHere q3.2 58).bind fun q4 => if q4.1 = 0 then (if q2.1 = (-1) then (S_X11_qPartTold_183 c2 q4.2 0) else ((F_X11_qOpens q4.2 ((60 + q2.1) - 10) (q4.2.1 0 2)).bind fun q5 => (F_X11_qAsksWord q5.2 q2.1).bind fun q6 => S_X11_qPartTold_183 c2 q6.2 x1)) else (S_X11_qPartTold_78 c2 q4.2 x1)) else (S_X11_qPartTold_78 c2 q3.2 x1))) else (S_X11_qPartTold_186 σ ))
theorem SC_X11_qPartTold_2 {E : sw_E} {d : Nat} (hd : 5 ≤ d) {p : Unit × sw_St} {c2 : sw_St → Int32 → Option (Unit × sw_St)} (h2 : ∀ (σ : sw_St) (x1 : Int32), c2 σ x1 = some p → sw_W E sw_gM m_X11_qPartTold d 2 [(0, .ref 0), (1, .int x1)] [] σ (sw_pV p)) {σ : sw_St} {x1 : Int32} (h : S_X11_qPartTold_2 c2 σ x1 = some p) : sw_W E sw_gM m_X11_qPartTold d 2 [(0, .ref 0), (1, .int x1)] [] σ (sw_pV p) := by
  unfold S_X11_qPartTold_2 at h
  refine B_X11_qPartTold_2  (fun hc => ?_) (fun hc => ?_)
  · rw [if_pos hc] at h
    exact SC_X11_qPartTold_186 hd h
  · rw [if_neg hc] at h
    refine B_X11_qPartTold_6  (fun hc => ?_) (fun hc => ?_)
    · rw [if_neg hc] at h
      exact SC_X11_qPartTold_186 hd h
    · rw [if_pos hc] at h
      obtain ⟨q1, hq, h⟩ := sw_bnd h
      refine B_X11_qPartTold_13  (FC_X11_look (Nat.le_refl _) hq) (Nat.lt_of_lt_of_le (by decide) hd) (fun v s hvs => ?_)
      obtain ⟨hv1, hv2⟩ := hvs; subst hv1; subst hv2
      obtain ⟨q2, hq, h⟩ := sw_bnd h
      refine B_X11_qPartTold_17  (FC_X11_qWordOf (Nat.le_refl _) hq) (Nat.lt_of_lt_of_le (by decide) hd) (fun v s hvs => ?_)
      obtain ⟨hv1, hv2⟩ := hvs; subst hv1; subst hv2
      refine B_X11_qPartTold_26  (fun hc => ?_) (fun hc => ?_)
      · rw [if_neg hc] at h
        obtain ⟨q3, hq, h⟩ := sw_bnd h
        refine B_X11_qPartTold_56  (FC_X11_isHere (Nat.le_refl _) hq) (Nat.lt_of_lt_of_le (by decide) hd) (fun v s hvs => ?_)
        obtain ⟨hv1, hv2⟩ := hvs; subst hv1; subst hv2
        refine B_X11_qPartTold_64  (fun hc => ?_) (fun hc => ?_)
        · rw [if_neg hc] at h
          exact SC_X11_qPartTold_78 hd h2 h
        · rw [if_pos hc] at h
          obtain ⟨q4, hq, h⟩ := sw_bnd h
          refine B_X11_qPartTold_67  (FC_X11_isHere (Nat.le_refl _) hq) (Nat.lt_of_lt_of_le (by decide) hd) (fun v s hvs => ?_)
          obtain ⟨hv1, hv2⟩ := hvs; subst hv1; subst hv2
          refine B_X11_qPartTold_75  (fun hc => ?_) (fun hc => ?_)
          · rw [if_pos hc] at h
            refine B_X11_qPartTold_153  (fun hc => ?_) (fun hc => ?_)
            · rw [if_pos hc] at h
              refine B_X11_qPartTold_181  ?_
              exact SC_X11_qPartTold_183 hd h2 h
            · rw [if_neg hc] at h
              obtain ⟨q5, hq, h⟩ := sw_bnd h
              refine B_X11_qPartTold_158  (FC_X11_qOpens (Nat.le_refl _) hq) (Nat.lt_of_lt_of_le (by decide) hd) (fun s hvs => ?_)
              subst hvs
              obtain ⟨q6, hq, h⟩ := sw_bnd h
              refine B_X11_qPartTold_173  (FC_X11_qAsksWord (Nat.le_refl _) hq) (Nat.lt_of_lt_of_le (by decide) hd) (fun s hvs => ?_)
              subst hvs
              refine B_X11_qPartTold_178  ?_
              exact SC_X11_qPartTold_183 hd h2 h
          · rw [if_neg hc] at h
            exact SC_X11_qPartTold_78 hd h2 h
      · rw [if_pos hc] at h
        obtain ⟨q7, hq, h⟩ := sw_bnd h
        refine B_X11_qPartTold_33  (FC_X11_qOpens (Nat.le_refl _) hq) (Nat.lt_of_lt_of_le (by decide) hd) (fun s hvs => ?_)
        subst hvs
        refine B_X11_qPartTold_43  ?_
        exact SC_X11_qPartTold_183 hd h2 h
noncomputable def L_X11_qPartTold_2 : Nat → sw_St → Int32 → Option (Unit × sw_St)
  | 0, _, _ => none
  | k + 1, σ, x1 => S_X11_qPartTold_2 (fun σ x1 => L_X11_qPartTold_2 k σ x1) σ x1
theorem LC_X11_qPartTold_2 {E : sw_E} {d : Nat} (hd : 5 ≤ d) {p : Unit × sw_St} : ∀ (k : Nat) (σ : sw_St) (x1 : Int32), L_X11_qPartTold_2 k σ x1 = some p → sw_W E sw_gM m_X11_qPartTold d 2 [(0, .ref 0), (1, .int x1)] [] σ (sw_pV p) := by
  intro k
  induction k with
  | zero => intro σ x1 h; cases h
  | succ k ih => intro σ x1 h; exact SC_X11_qPartTold_2 hd ih h
noncomputable def F_X11_qPartTold (σ : sw_St) : Option (Unit × sw_St) :=
  L_X11_qPartTold_2 sw_fuel σ 1
theorem FC_X11_qPartTold {E : sw_E} {d : Nat} (hd : 5 ≤ d) {p : Unit × sw_St} {σ : sw_St} (h : F_X11_qPartTold σ  = some p) : sw_KV E sw_gM m_X11_qPartTold d [.ref 0] σ (fun s => s = p.2) := by
  unfold F_X11_qPartTold at h
  refine sw_K.of (by decide +kernel) rfl (Nat.le_of_ble_eq_true rfl) ?_
  show sw_W E sw_gM m_X11_qPartTold d 0 [(0, .ref 0)] [] σ (sw_pV p)
  refine B_X11_qPartTold_0  ?_
  exact LC_X11_qPartTold_2 hd _ _ _ h
/-! StrayWoolModel.qGoesOn()Z -/
noncomputable def S_X11_qGoesOn_178 (c162 : sw_St → Int32 → Option (Int32 × sw_St)) (σ : sw_St) (x1 : Int32) : Option (Int32 × sw_St) :=
  (F_X11_qDrops σ ).bind fun q1 => c162 q1.2 x1
theorem SC_X11_qGoesOn_178 {E : sw_E} {d : Nat} (hd : 3 ≤ d) {p : Int32 × sw_St} {c162 : sw_St → Int32 → Option (Int32 × sw_St)} (h162 : ∀ (σ : sw_St) (x1 : Int32), c162 σ x1 = some p → sw_W E sw_gM m_X11_qGoesOn d 162 [(0, .ref 0), (1, .int x1)] [] σ (sw_pI p)) {σ : sw_St} {x1 : Int32} (h : S_X11_qGoesOn_178 c162 σ x1 = some p) : sw_W E sw_gM m_X11_qGoesOn d 178 [(0, .ref 0), (1, .int x1)] [] σ (sw_pI p) := by
  unfold S_X11_qGoesOn_178 at h
  obtain ⟨q1, hq, h⟩ := sw_bnd h
  refine B_X11_qGoesOn_178  (FC_X11_qDrops (Nat.le_refl _) hq) (Nat.lt_of_lt_of_le (by decide) hd) (fun s hvs => ?_)
  subst hvs
  refine B_X11_qGoesOn_182  ?_
  exact h162 _ _ h
noncomputable def S_X11_qGoesOn_162 (c162 : sw_St → Int32 → Option (Int32 × sw_St)) (σ : sw_St) (x1 : Int32) : Option (Int32 × sw_St) :=
  (F_X11_qIsOn σ 3).bind fun q1 => if q1.1 = 0 then ((F_X11_qIsOn q1.2 4).bind fun q2 => if q2.1 = 0 then (if sw_inb (q2.2.1 0 97) 1700 = true then (some (1, (sw_uI (sw_uI q2.2 72 ((q2.2.1 0 97).toNatClampNeg) x1) 0 97 ((q2.2.1 0 97) + 1)))) else none) else (S_X11_qGoesOn_178 c162 q2.2 x1)) else (S_X11_qGoesOn_178 c162 q1.2 x1)
theorem SC_X11_qGoesOn_162 {E : sw_E} {d : Nat} (hd : 3 ≤ d) {p : Int32 × sw_St} {c162 : sw_St → Int32 → Option (Int32 × sw_St)} (h162 : ∀ (σ : sw_St) (x1 : Int32), c162 σ x1 = some p → sw_W E sw_gM m_X11_qGoesOn d 162 [(0, .ref 0), (1, .int x1)] [] σ (sw_pI p)) {σ : sw_St} {x1 : Int32} (h : S_X11_qGoesOn_162 c162 σ x1 = some p) : sw_W E sw_gM m_X11_qGoesOn d 162 [(0, .ref 0), (1, .int x1)] [] σ (sw_pI p) := by
  unfold S_X11_qGoesOn_162 at h
  obtain ⟨q1, hq, h⟩ := sw_bnd h
  refine B_X11_qGoesOn_162  (FC_X11_qIsOn (Nat.le_refl _) hq) (Nat.lt_of_lt_of_le (by decide) hd) (fun v s hvs => ?_)
  obtain ⟨hv1, hv2⟩ := hvs; subst hv1; subst hv2
  refine B_X11_qGoesOn_167  (fun hc => ?_) (fun hc => ?_)
  · rw [if_neg hc] at h
    exact SC_X11_qGoesOn_178 hd h162 h
  · rw [if_pos hc] at h
    obtain ⟨q2, hq, h⟩ := sw_bnd h
    refine B_X11_qGoesOn_170  (FC_X11_qIsOn (Nat.le_refl _) hq) (Nat.lt_of_lt_of_le (by decide) hd) (fun v s hvs => ?_)
    obtain ⟨hv1, hv2⟩ := hvs; subst hv1; subst hv2
    refine B_X11_qGoesOn_175  (fun hc => ?_) (fun hc => ?_)
    · rw [if_pos hc] at h
      obtain ⟨o3, h⟩ := sw_ifs h
      cases h
      exact B_X11_qGoesOn_185 (sw_inb_sp o3) ⟨_, rfl, rfl, rfl⟩
    · rw [if_neg hc] at h
      exact SC_X11_qGoesOn_178 hd h162 h
noncomputable def L_X11_qGoesOn_162 : Nat → sw_St → Int32 → Option (Int32 × sw_St)
  | 0, _, _ => none
  | k + 1, σ, x1 => S_X11_qGoesOn_162 (fun σ x1 => L_X11_qGoesOn_162 k σ x1) σ x1
theorem LC_X11_qGoesOn_162 {E : sw_E} {d : Nat} (hd : 3 ≤ d) {p : Int32 × sw_St} : ∀ (k : Nat) (σ : sw_St) (x1 : Int32), L_X11_qGoesOn_162 k σ x1 = some p → sw_W E sw_gM m_X11_qGoesOn d 162 [(0, .ref 0), (1, .int x1)] [] σ (sw_pI p) := by
  intro k
  induction k with
  | zero => intro σ x1 h; cases h
  | succ k ih => intro σ x1 h; exact SC_X11_qGoesOn_162 hd ih h
noncomputable def S_X11_qGoesOn_161 (σ : sw_St) (sx0 : Int32) : Option (Int32 × sw_St) :=
  L_X11_qGoesOn_162 sw_fuel σ sx0
theorem SC_X11_qGoesOn_161 {E : sw_E} {d : Nat} (hd : 3 ≤ d) {p : Int32 × sw_St} {σ : sw_St} {sx0 : Int32} (h : S_X11_qGoesOn_161 σ sx0 = some p) : sw_W E sw_gM m_X11_qGoesOn d 161 [(0, .ref 0)] [.int sx0] σ (sw_pI p) := by
  unfold S_X11_qGoesOn_161 at h
  refine B_X11_qGoesOn_161  ?_
  exact LC_X11_qGoesOn_162 hd _ _ _ h
noncomputable def S_X11_qGoesOn_140 (σ : sw_St) : Option (Int32 × sw_St) :=
  if sw_inb ((σ.1 0 2) - 1) 1600 = true then (if (σ.1 1 (((σ.1 0 2) - 1).toNatClampNeg)) = 42 then (S_X11_qGoesOn_161 σ 3) else (S_X11_qGoesOn_161 σ 4)) else none
theorem SC_X11_qGoesOn_140 {E : sw_E} {d : Nat} (hd : 3 ≤ d) {p : Int32 × sw_St} {σ : sw_St} (h : S_X11_qGoesOn_140 σ  = some p) : sw_W E sw_gM m_X11_qGoesOn d 140 [(0, .ref 0)] [] σ (sw_pI p) := by
  unfold S_X11_qGoesOn_140 at h
  obtain ⟨o1, h⟩ := sw_ifs h
  refine B_X11_qGoesOn_140 (sw_inb_sp o1) (fun hc => ?_) (fun hc => ?_)
  · rw [if_neg hc] at h
    refine B_X11_qGoesOn_160  ?_
    exact SC_X11_qGoesOn_161 hd h
  · rw [if_pos hc] at h
    refine B_X11_qGoesOn_156  ?_
    exact SC_X11_qGoesOn_161 hd h
noncomputable def S_X11_qGoesOn_279 (c247 : sw_St → Int32 → Option (Int32 × sw_St)) (σ : sw_St) (x1 : Int32) : Option (Int32 × sw_St) :=
  (F_X11_qDrops σ ).bind fun q1 => c247 q1.2 x1
theorem SC_X11_qGoesOn_279 {E : sw_E} {d : Nat} (hd : 3 ≤ d) {p : Int32 × sw_St} {c247 : sw_St → Int32 → Option (Int32 × sw_St)} (h247 : ∀ (σ : sw_St) (x1 : Int32), c247 σ x1 = some p → sw_W E sw_gM m_X11_qGoesOn d 247 [(0, .ref 0), (1, .int x1)] [] σ (sw_pI p)) {σ : sw_St} {x1 : Int32} (h : S_X11_qGoesOn_279 c247 σ x1 = some p) : sw_W E sw_gM m_X11_qGoesOn d 279 [(0, .ref 0), (1, .int x1)] [] σ (sw_pI p) := by
  unfold S_X11_qGoesOn_279 at h
  obtain ⟨q1, hq, h⟩ := sw_bnd h
  refine B_X11_qGoesOn_279  (FC_X11_qDrops (Nat.le_refl _) hq) (Nat.lt_of_lt_of_le (by decide) hd) (fun s hvs => ?_)
  subst hvs
  refine B_X11_qGoesOn_283  ?_
  exact h247 _ _ h
noncomputable def S_X11_qGoesOn_247 (c247 : sw_St → Int32 → Option (Int32 × sw_St)) (σ : sw_St) (x1 : Int32) : Option (Int32 × sw_St) :=
  (F_X11_qIsOn σ 3).bind fun q1 => if q1.1 = 0 then ((F_X11_qIsOn q1.2 4).bind fun q2 => if q2.1 = 0 then ((F_X11_qIsOn q2.2 1).bind fun q3 => if q3.1 = 0 then ((F_X11_qIsOn q3.2 2).bind fun q4 => if q4.1 = 0 then (if sw_inb (q4.2.1 0 97) 1700 = true then (some (1, (sw_uI (sw_uI q4.2 72 ((q4.2.1 0 97).toNatClampNeg) x1) 0 97 ((q4.2.1 0 97) + 1)))) else none) else (S_X11_qGoesOn_279 c247 q4.2 x1)) else (S_X11_qGoesOn_279 c247 q3.2 x1)) else (S_X11_qGoesOn_279 c247 q2.2 x1)) else (S_X11_qGoesOn_279 c247 q1.2 x1)
theorem SC_X11_qGoesOn_247 {E : sw_E} {d : Nat} (hd : 3 ≤ d) {p : Int32 × sw_St} {c247 : sw_St → Int32 → Option (Int32 × sw_St)} (h247 : ∀ (σ : sw_St) (x1 : Int32), c247 σ x1 = some p → sw_W E sw_gM m_X11_qGoesOn d 247 [(0, .ref 0), (1, .int x1)] [] σ (sw_pI p)) {σ : sw_St} {x1 : Int32} (h : S_X11_qGoesOn_247 c247 σ x1 = some p) : sw_W E sw_gM m_X11_qGoesOn d 247 [(0, .ref 0), (1, .int x1)] [] σ (sw_pI p) := by
  unfold S_X11_qGoesOn_247 at h
  obtain ⟨q1, hq, h⟩ := sw_bnd h
  refine B_X11_qGoesOn_247  (FC_X11_qIsOn (Nat.le_refl _) hq) (Nat.lt_of_lt_of_le (by decide) hd) (fun v s hvs => ?_)
  obtain ⟨hv1, hv2⟩ := hvs; subst hv1; subst hv2
  refine B_X11_qGoesOn_252  (fun hc => ?_) (fun hc => ?_)
  · rw [if_neg hc] at h
    exact SC_X11_qGoesOn_279 hd h247 h
  · rw [if_pos hc] at h
    obtain ⟨q2, hq, h⟩ := sw_bnd h
    refine B_X11_qGoesOn_255  (FC_X11_qIsOn (Nat.le_refl _) hq) (Nat.lt_of_lt_of_le (by decide) hd) (fun v s hvs => ?_)
    obtain ⟨hv1, hv2⟩ := hvs; subst hv1; subst hv2
    refine B_X11_qGoesOn_260  (fun hc => ?_) (fun hc => ?_)
    · rw [if_neg hc] at h
      exact SC_X11_qGoesOn_279 hd h247 h
    · rw [if_pos hc] at h
      obtain ⟨q3, hq, h⟩ := sw_bnd h
      refine B_X11_qGoesOn_263  (FC_X11_qIsOn (Nat.le_refl _) hq) (Nat.lt_of_lt_of_le (by decide) hd) (fun v s hvs => ?_)
      obtain ⟨hv1, hv2⟩ := hvs; subst hv1; subst hv2
      refine B_X11_qGoesOn_268  (fun hc => ?_) (fun hc => ?_)
      · rw [if_neg hc] at h
        exact SC_X11_qGoesOn_279 hd h247 h
      · rw [if_pos hc] at h
        obtain ⟨q4, hq, h⟩ := sw_bnd h
        refine B_X11_qGoesOn_271  (FC_X11_qIsOn (Nat.le_refl _) hq) (Nat.lt_of_lt_of_le (by decide) hd) (fun v s hvs => ?_)
        obtain ⟨hv1, hv2⟩ := hvs; subst hv1; subst hv2
        refine B_X11_qGoesOn_276  (fun hc => ?_) (fun hc => ?_)
        · rw [if_pos hc] at h
          obtain ⟨o5, h⟩ := sw_ifs h
          cases h
          exact B_X11_qGoesOn_286 (sw_inb_sp o5) ⟨_, rfl, rfl, rfl⟩
        · rw [if_neg hc] at h
          exact SC_X11_qGoesOn_279 hd h247 h
noncomputable def L_X11_qGoesOn_247 : Nat → sw_St → Int32 → Option (Int32 × sw_St)
  | 0, _, _ => none
  | k + 1, σ, x1 => S_X11_qGoesOn_247 (fun σ x1 => L_X11_qGoesOn_247 k σ x1) σ x1
theorem LC_X11_qGoesOn_247 {E : sw_E} {d : Nat} (hd : 3 ≤ d) {p : Int32 × sw_St} : ∀ (k : Nat) (σ : sw_St) (x1 : Int32), L_X11_qGoesOn_247 k σ x1 = some p → sw_W E sw_gM m_X11_qGoesOn d 247 [(0, .ref 0), (1, .int x1)] [] σ (sw_pI p) := by
  intro k
  induction k with
  | zero => intro σ x1 h; cases h
  | succ k ih => intro σ x1 h; exact SC_X11_qGoesOn_247 hd ih h
noncomputable def S_X11_qGoesOn_246 (σ : sw_St) (sx0 : Int32) : Option (Int32 × sw_St) :=
  L_X11_qGoesOn_247 sw_fuel σ sx0
theorem SC_X11_qGoesOn_246 {E : sw_E} {d : Nat} (hd : 3 ≤ d) {p : Int32 × sw_St} {σ : sw_St} {sx0 : Int32} (h : S_X11_qGoesOn_246 σ sx0 = some p) : sw_W E sw_gM m_X11_qGoesOn d 246 [(0, .ref 0)] [.int sx0] σ (sw_pI p) := by
  unfold S_X11_qGoesOn_246 at h
  refine B_X11_qGoesOn_246  ?_
  exact LC_X11_qGoesOn_247 hd _ _ _ h
noncomputable def S_X11_qGoesOn_225 (σ : sw_St) : Option (Int32 × sw_St) :=
  if sw_inb ((σ.1 0 2) - 1) 1600 = true then (if (σ.1 1 (((σ.1 0 2) - 1).toNatClampNeg)) = 43 then (S_X11_qGoesOn_246 σ 1) else (S_X11_qGoesOn_246 σ 2)) else none
theorem SC_X11_qGoesOn_225 {E : sw_E} {d : Nat} (hd : 3 ≤ d) {p : Int32 × sw_St} {σ : sw_St} (h : S_X11_qGoesOn_225 σ  = some p) : sw_W E sw_gM m_X11_qGoesOn d 225 [(0, .ref 0)] [] σ (sw_pI p) := by
  unfold S_X11_qGoesOn_225 at h
  obtain ⟨o1, h⟩ := sw_ifs h
  refine B_X11_qGoesOn_225 (sw_inb_sp o1) (fun hc => ?_) (fun hc => ?_)
  · rw [if_neg hc] at h
    refine B_X11_qGoesOn_245  ?_
    exact SC_X11_qGoesOn_246 hd h
  · rw [if_pos hc] at h
    refine B_X11_qGoesOn_241  ?_
    exact SC_X11_qGoesOn_246 hd h
noncomputable def S_X11_qGoesOn_326 (σ : sw_St) : Option (Int32 × sw_St) :=
  (F_X11_asksSign σ 44).bind fun q1 => if (q1.2.1 0 5) = 0 then ((F_X11_qDropsToBracket q1.2 ).bind fun q2 => if sw_inb ((q2.2.1 0 97) - 1) 1700 = true then (if sw_inb ((q2.2.1 0 97) - 1) 1700 = true then (some (1, (sw_uI q2.2 72 (((q2.2.1 0 97) - 1).toNatClampNeg) ((q2.2.1 72 (((q2.2.1 0 97) - 1).toNatClampNeg)) + 2)))) else none) else none) else (some (0, q1.2))
theorem SC_X11_qGoesOn_326 {E : sw_E} {d : Nat} (hd : 3 ≤ d) {p : Int32 × sw_St} {σ : sw_St} (h : S_X11_qGoesOn_326 σ  = some p) : sw_W E sw_gM m_X11_qGoesOn d 326 [(0, .ref 0)] [] σ (sw_pI p) := by
  unfold S_X11_qGoesOn_326 at h
  obtain ⟨q1, hq, h⟩ := sw_bnd h
  refine B_X11_qGoesOn_326  (FC_X11_asksSign (Nat.le_refl _) hq) (Nat.lt_of_lt_of_le (by decide) hd) (fun s hvs => ?_)
  subst hvs
  refine B_X11_qGoesOn_332  (fun hc => ?_) (fun hc => ?_)
  · rw [if_pos hc] at h
    obtain ⟨q2, hq, h⟩ := sw_bnd h
    refine B_X11_qGoesOn_341  (FC_X11_qDropsToBracket (Nat.le_refl _) hq) (Nat.lt_of_lt_of_le (by decide) hd) (fun s hvs => ?_)
    subst hvs
    obtain ⟨o3, h⟩ := sw_ifs h
    obtain ⟨o4, h⟩ := sw_ifs h
    cases h
    exact B_X11_qGoesOn_345 (sw_inb_sp o3) (sw_inb_sp o4) ⟨_, rfl, rfl, rfl⟩
  · rw [if_neg hc] at h
    cases h
    exact B_X11_qGoesOn_339  ⟨_, rfl, rfl, rfl⟩
noncomputable def S_X11_qGoesOn_386 (σ : sw_St) : Option (Int32 × sw_St) :=
  some (0, σ)
theorem SC_X11_qGoesOn_386 {E : sw_E} {d : Nat} (hd : 3 ≤ d) {p : Int32 × sw_St} {σ : sw_St} (h : S_X11_qGoesOn_386 σ  = some p) : sw_W E sw_gM m_X11_qGoesOn d 386 [] [] σ (sw_pI p) := by
  unfold S_X11_qGoesOn_386 at h
  cases h
  exact B_X11_qGoesOn_386  ⟨_, rfl, rfl, rfl⟩
noncomputable def S_X11_qGoesOn_122 (σ : sw_St) : Option (Int32 × sw_St) :=
  (F_X11_takesSign σ 42).bind fun q1 => if q1.1 = 0 then ((F_X11_takesSign q1.2 47).bind fun q2 => if q2.1 = 0 then ((F_X11_takesSign q2.2 43).bind fun q3 => if q3.1 = 0 then ((F_X11_takesSign q3.2 45).bind fun q4 => if q4.1 = 0 then ((F_X11_qBracket q4.2 ).bind fun q5 => if q5.1 = 21 then (S_X11_qGoesOn_326 q5.2 ) else ((F_X11_qBracket q5.2 ).bind fun q6 => if q6.1 = 22 then (S_X11_qGoesOn_326 q6.2 ) else ((F_X11_qBracket q6.2 ).bind fun q7 => if q7.1 = (-1) then (S_X11_qGoesOn_386 q7.2 ) else (if (q7.2.1 0 5) = 0 then ((F_X11_fail q7.2 1 (q7.2.1 0 2)).bind fun q8 => S_X11_qGoesOn_386 q8.2 ) else (S_X11_qGoesOn_386 q7.2 ))))) else (S_X11_qGoesOn_225 q4.2 )) else (S_X11_qGoesOn_225 q3.2 )) else (S_X11_qGoesOn_140 q2.2 )) else (S_X11_qGoesOn_140 q1.2 )
theorem SC_X11_qGoesOn_122 {E : sw_E} {d : Nat} (hd : 3 ≤ d) {p : Int32 × sw_St} {σ : sw_St} (h : S_X11_qGoesOn_122 σ  = some p) : sw_W E sw_gM m_X11_qGoesOn d 122 [(0, .ref 0)] [] σ (sw_pI p) := by
  unfold S_X11_qGoesOn_122 at h
  obtain ⟨q1, hq, h⟩ := sw_bnd h
  refine B_X11_qGoesOn_122  (FC_X11_takesSign (Nat.le_refl _) hq) (Nat.lt_of_lt_of_le (by decide) hd) (fun v s hvs => ?_)
  obtain ⟨hv1, hv2⟩ := hvs; subst hv1; subst hv2
  refine B_X11_qGoesOn_128  (fun hc => ?_) (fun hc => ?_)
  · rw [if_neg hc] at h
    exact SC_X11_qGoesOn_140 hd h
  · rw [if_pos hc] at h
    obtain ⟨q2, hq, h⟩ := sw_bnd h
    refine B_X11_qGoesOn_131  (FC_X11_takesSign (Nat.le_refl _) hq) (Nat.lt_of_lt_of_le (by decide) hd) (fun v s hvs => ?_)
    obtain ⟨hv1, hv2⟩ := hvs; subst hv1; subst hv2
    refine B_X11_qGoesOn_137  (fun hc => ?_) (fun hc => ?_)
    · rw [if_pos hc] at h
      obtain ⟨q3, hq, h⟩ := sw_bnd h
      refine B_X11_qGoesOn_207  (FC_X11_takesSign (Nat.le_refl _) hq) (Nat.lt_of_lt_of_le (by decide) hd) (fun v s hvs => ?_)
      obtain ⟨hv1, hv2⟩ := hvs; subst hv1; subst hv2
      refine B_X11_qGoesOn_213  (fun hc => ?_) (fun hc => ?_)
      · rw [if_neg hc] at h
        exact SC_X11_qGoesOn_225 hd h
      · rw [if_pos hc] at h
        obtain ⟨q4, hq, h⟩ := sw_bnd h
        refine B_X11_qGoesOn_216  (FC_X11_takesSign (Nat.le_refl _) hq) (Nat.lt_of_lt_of_le (by decide) hd) (fun v s hvs => ?_)
        obtain ⟨hv1, hv2⟩ := hvs; subst hv1; subst hv2
        refine B_X11_qGoesOn_222  (fun hc => ?_) (fun hc => ?_)
        · rw [if_pos hc] at h
          obtain ⟨q5, hq, h⟩ := sw_bnd h
          refine B_X11_qGoesOn_308  (FC_X11_qBracket (Nat.le_refl _) hq) (Nat.lt_of_lt_of_le (by decide) hd) (fun v s hvs => ?_)
          obtain ⟨hv1, hv2⟩ := hvs; subst hv1; subst hv2
          refine B_X11_qGoesOn_312  (fun hc => ?_) (fun hc => ?_)
          · rw [if_pos hc] at h
            exact SC_X11_qGoesOn_326 hd h
          · rw [if_neg hc] at h
            obtain ⟨q6, hq, h⟩ := sw_bnd h
            refine B_X11_qGoesOn_317  (FC_X11_qBracket (Nat.le_refl _) hq) (Nat.lt_of_lt_of_le (by decide) hd) (fun v s hvs => ?_)
            obtain ⟨hv1, hv2⟩ := hvs; subst hv1; subst hv2
            refine B_X11_qGoesOn_321  (fun hc => ?_) (fun hc => ?_)
            · rw [if_neg hc] at h
              obtain ⟨q7, hq, h⟩ := sw_bnd h
              refine B_X11_qGoesOn_362  (FC_X11_qBracket (Nat.le_refl _) hq) (Nat.lt_of_lt_of_le (by decide) hd) (fun v s hvs => ?_)
              obtain ⟨hv1, hv2⟩ := hvs; subst hv1; subst hv2
              refine B_X11_qGoesOn_366  (fun hc => ?_) (fun hc => ?_)
              · rw [if_pos hc] at h
                exact SC_X11_qGoesOn_386 hd h
              · rw [if_neg hc] at h
                refine B_X11_qGoesOn_370  (fun hc => ?_) (fun hc => ?_)
                · rw [if_neg hc] at h
                  exact SC_X11_qGoesOn_386 hd h
                · rw [if_pos hc] at h
                  obtain ⟨q8, hq, h⟩ := sw_bnd h
                  refine B_X11_qGoesOn_377  (FC_X11_fail (Nat.le_refl _) hq) (Nat.lt_of_lt_of_le (by decide) hd) (fun s hvs => ?_)
                  subst hvs
                  exact SC_X11_qGoesOn_386 hd h
            · rw [if_pos hc] at h
              exact SC_X11_qGoesOn_326 hd h
        · rw [if_neg hc] at h
          exact SC_X11_qGoesOn_225 hd h
    · rw [if_neg hc] at h
      exact SC_X11_qGoesOn_140 hd h
noncomputable def S_X11_qGoesOn_115 (c0 : sw_St → Option (Int32 × sw_St)) (σ : sw_St) : Option (Int32 × sw_St) :=
  (F_X11_qEndsPart σ ).bind fun q1 => c0 q1.2 
theorem SC_X11_qGoesOn_115 {E : sw_E} {d : Nat} (hd : 3 ≤ d) {p : Int32 × sw_St} {c0 : sw_St → Option (Int32 × sw_St)} (h0 : ∀ (σ : sw_St), c0 σ  = some p → sw_W E sw_gM m_X11_qGoesOn d 0 [(0, .ref 0)] [] σ (sw_pI p)) {σ : sw_St} (h : S_X11_qGoesOn_115 c0 σ  = some p) : sw_W E sw_gM m_X11_qGoesOn d 115 [(0, .ref 0)] [] σ (sw_pI p) := by
  unfold S_X11_qGoesOn_115 at h
  obtain ⟨q1, hq, h⟩ := sw_bnd h
  refine B_X11_qGoesOn_115  (FC_X11_qEndsPart (Nat.le_refl _) hq) (Nat.lt_of_lt_of_le (by decide) hd) (fun s hvs => ?_)
  subst hvs
  refine B_X11_qGoesOn_119  ?_
  exact h0 _  h
noncomputable def S_X11_qGoesOn_112 (c0 : sw_St → Option (Int32 × sw_St)) (σ : sw_St) (sx0 : Int32) : Option (Int32 × sw_St) :=
  (F_X11_qCode σ sx0).bind fun q1 => S_X11_qGoesOn_115 c0 q1.2 
theorem SC_X11_qGoesOn_112 {E : sw_E} {d : Nat} (hd : 3 ≤ d) {p : Int32 × sw_St} {c0 : sw_St → Option (Int32 × sw_St)} (h0 : ∀ (σ : sw_St), c0 σ  = some p → sw_W E sw_gM m_X11_qGoesOn d 0 [(0, .ref 0)] [] σ (sw_pI p)) {σ : sw_St} {sx0 : Int32} (h : S_X11_qGoesOn_112 c0 σ sx0 = some p) : sw_W E sw_gM m_X11_qGoesOn d 112 [(0, .ref 0)] [.int sx0, .ref 0] σ (sw_pI p) := by
  unfold S_X11_qGoesOn_112 at h
  obtain ⟨q1, hq, h⟩ := sw_bnd h
  refine B_X11_qGoesOn_112  (FC_X11_qCode (Nat.le_refl _) hq) (Nat.lt_of_lt_of_le (by decide) hd) (fun s hvs => ?_)
  subst hvs
  exact SC_X11_qGoesOn_115 hd h0 h
noncomputable def S_X11_qGoesOn_91 (c0 : sw_St → Option (Int32 × sw_St)) (σ : sw_St) : Option (Int32 × sw_St) :=
  if sw_inb (σ.1 0 97) 1700 = true then (if (σ.1 72 ((σ.1 0 97).toNatClampNeg)) = 23 then (S_X11_qGoesOn_112 c0 σ 5) else (S_X11_qGoesOn_112 c0 σ 6)) else none
theorem SC_X11_qGoesOn_91 {E : sw_E} {d : Nat} (hd : 3 ≤ d) {p : Int32 × sw_St} {c0 : sw_St → Option (Int32 × sw_St)} (h0 : ∀ (σ : sw_St), c0 σ  = some p → sw_W E sw_gM m_X11_qGoesOn d 0 [(0, .ref 0)] [] σ (sw_pI p)) {σ : sw_St} (h : S_X11_qGoesOn_91 c0 σ  = some p) : sw_W E sw_gM m_X11_qGoesOn d 91 [(0, .ref 0)] [] σ (sw_pI p) := by
  unfold S_X11_qGoesOn_91 at h
  obtain ⟨o1, h⟩ := sw_ifs h
  refine B_X11_qGoesOn_91 (sw_inb_sp o1) (fun hc => ?_) (fun hc => ?_)
  · rw [if_neg hc] at h
    refine B_X11_qGoesOn_110  ?_
    exact SC_X11_qGoesOn_112 hd h0 h
  · rw [if_pos hc] at h
    refine B_X11_qGoesOn_106  ?_
    exact SC_X11_qGoesOn_112 hd h0 h
noncomputable def S_X11_qGoesOn_43 (c0 : sw_St → Option (Int32 × sw_St)) (σ : sw_St) : Option (Int32 × sw_St) :=
  (F_X11_qDropsToBracket (sw_uI σ 0 2 ((σ.1 0 2) + 1)) ).bind fun q1 => if sw_inb ((q1.2.1 0 97) - 1) 1700 = true then (if (q1.2.1 72 (((q1.2.1 0 97) - 1).toNatClampNeg)) = 20 then (S_X11_qGoesOn_115 c0 (sw_uI (sw_uI q1.2 0 97 ((q1.2.1 0 97) - 1)) 0 98 ((q1.2.1 0 98) - 1)) ) else (S_X11_qGoesOn_91 c0 (sw_uI (sw_uI q1.2 0 97 ((q1.2.1 0 97) - 1)) 0 98 ((q1.2.1 0 98) - 1)) )) else none
theorem SC_X11_qGoesOn_43 {E : sw_E} {d : Nat} (hd : 3 ≤ d) {p : Int32 × sw_St} {c0 : sw_St → Option (Int32 × sw_St)} (h0 : ∀ (σ : sw_St), c0 σ  = some p → sw_W E sw_gM m_X11_qGoesOn d 0 [(0, .ref 0)] [] σ (sw_pI p)) {σ : sw_St} (h : S_X11_qGoesOn_43 c0 σ  = some p) : sw_W E sw_gM m_X11_qGoesOn d 43 [(0, .ref 0)] [] σ (sw_pI p) := by
  unfold S_X11_qGoesOn_43 at h
  obtain ⟨q1, hq, h⟩ := sw_bnd h
  refine B_X11_qGoesOn_43  (FC_X11_qDropsToBracket (Nat.le_refl _) hq) (Nat.lt_of_lt_of_le (by decide) hd) (fun s hvs => ?_)
  subst hvs
  obtain ⟨o2, h⟩ := sw_ifs h
  refine B_X11_qGoesOn_57 (sw_inb_sp o2) (fun hc => ?_) (fun hc => ?_)
  · rw [if_pos hc] at h
    exact SC_X11_qGoesOn_115 hd h0 h
  · rw [if_neg hc] at h
    exact SC_X11_qGoesOn_91 hd h0 h
noncomputable def S_X11_qGoesOn_0 (c0 : sw_St → Option (Int32 × sw_St)) (σ : sw_St) : Option (Int32 × sw_St) :=
  if (σ.1 0 5) = 0 then ((F_X11_look σ ).bind fun q1 => if q1.1 = 41 then ((F_X11_qBracket q1.2 ).bind fun q2 => if q2.1 = 20 then (S_X11_qGoesOn_43 c0 q2.2 ) else ((F_X11_qBracket q2.2 ).bind fun q3 => if q3.1 = 23 then (S_X11_qGoesOn_43 c0 q3.2 ) else ((F_X11_qBracket q3.2 ).bind fun q4 => if q4.1 = 24 then (S_X11_qGoesOn_43 c0 q4.2 ) else (S_X11_qGoesOn_122 q4.2 )))) else (S_X11_qGoesOn_122 q1.2 )) else (S_X11_qGoesOn_122 σ )
theorem SC_X11_qGoesOn_0 {E : sw_E} {d : Nat} (hd : 3 ≤ d) {p : Int32 × sw_St} {c0 : sw_St → Option (Int32 × sw_St)} (h0 : ∀ (σ : sw_St), c0 σ  = some p → sw_W E sw_gM m_X11_qGoesOn d 0 [(0, .ref 0)] [] σ (sw_pI p)) {σ : sw_St} (h : S_X11_qGoesOn_0 c0 σ  = some p) : sw_W E sw_gM m_X11_qGoesOn d 0 [(0, .ref 0)] [] σ (sw_pI p) := by
  unfold S_X11_qGoesOn_0 at h
  refine B_X11_qGoesOn_0  (fun hc => ?_) (fun hc => ?_)
  · rw [if_neg hc] at h
    exact SC_X11_qGoesOn_122 hd h
  · rw [if_pos hc] at h
    obtain ⟨q1, hq, h⟩ := sw_bnd h
    refine B_X11_qGoesOn_7  (FC_X11_look (Nat.le_refl _) hq) (Nat.lt_of_lt_of_le (by decide) hd) (fun v s hvs => ?_)
    obtain ⟨hv1, hv2⟩ := hvs; subst hv1; subst hv2
    refine B_X11_qGoesOn_11  (fun hc => ?_) (fun hc => ?_)
    · rw [if_neg hc] at h
      exact SC_X11_qGoesOn_122 hd h
    · rw [if_pos hc] at h
      obtain ⟨q2, hq, h⟩ := sw_bnd h
      refine B_X11_qGoesOn_16  (FC_X11_qBracket (Nat.le_refl _) hq) (Nat.lt_of_lt_of_le (by decide) hd) (fun v s hvs => ?_)
      obtain ⟨hv1, hv2⟩ := hvs; subst hv1; subst hv2
      refine B_X11_qGoesOn_20  (fun hc => ?_) (fun hc => ?_)
      · rw [if_pos hc] at h
        exact SC_X11_qGoesOn_43 hd h0 h
      · rw [if_neg hc] at h
        obtain ⟨q3, hq, h⟩ := sw_bnd h
        refine B_X11_qGoesOn_25  (FC_X11_qBracket (Nat.le_refl _) hq) (Nat.lt_of_lt_of_le (by decide) hd) (fun v s hvs => ?_)
        obtain ⟨hv1, hv2⟩ := hvs; subst hv1; subst hv2
        refine B_X11_qGoesOn_29  (fun hc => ?_) (fun hc => ?_)
        · rw [if_pos hc] at h
          exact SC_X11_qGoesOn_43 hd h0 h
        · rw [if_neg hc] at h
          obtain ⟨q4, hq, h⟩ := sw_bnd h
          refine B_X11_qGoesOn_34  (FC_X11_qBracket (Nat.le_refl _) hq) (Nat.lt_of_lt_of_le (by decide) hd) (fun v s hvs => ?_)
          obtain ⟨hv1, hv2⟩ := hvs; subst hv1; subst hv2
          refine B_X11_qGoesOn_38  (fun hc => ?_) (fun hc => ?_)
          · rw [if_neg hc] at h
            exact SC_X11_qGoesOn_122 hd h
          · rw [if_pos hc] at h
            exact SC_X11_qGoesOn_43 hd h0 h
noncomputable def L_X11_qGoesOn_0 : Nat → sw_St → Option (Int32 × sw_St)
  | 0, _ => none
  | k + 1, σ => S_X11_qGoesOn_0 (fun σ => L_X11_qGoesOn_0 k σ ) σ 
theorem LC_X11_qGoesOn_0 {E : sw_E} {d : Nat} (hd : 3 ≤ d) {p : Int32 × sw_St} : ∀ (k : Nat) (σ : sw_St), L_X11_qGoesOn_0 k σ  = some p → sw_W E sw_gM m_X11_qGoesOn d 0 [(0, .ref 0)] [] σ (sw_pI p) := by
  intro k
  induction k with
  | zero => intro σ h; cases h
  | succ k ih => intro σ h; exact SC_X11_qGoesOn_0 hd ih h
noncomputable def F_X11_qGoesOn (σ : sw_St) : Option (Int32 × sw_St) :=
  L_X11_qGoesOn_0 sw_fuel σ 
theorem FC_X11_qGoesOn {E : sw_E} {d : Nat} (hd : 3 ≤ d) {p : Int32 × sw_St} {σ : sw_St} (h : F_X11_qGoesOn σ  = some p) : sw_KI E sw_gM m_X11_qGoesOn d [.ref 0] σ (fun v s => v = p.1 ∧ s = p.2) := by
  unfold F_X11_qGoesOn at h
  refine sw_K.of (by decide +kernel) rfl (Nat.le_of_ble_eq_true rfl) ?_
  show sw_W E sw_gM m_X11_qGoesOn d 0 [(0, .ref 0)] [] σ (sw_pI p)
  exact LC_X11_qGoesOn_0 hd _ _  h
/-! StrayWoolModel.qSums()V -/
noncomputable def S_X11_qSums_78 (σ : sw_St) (x1 : Int32) : Option (Unit × sw_St) :=
  some ((), (sw_uI σ 0 99 x1))
theorem SC_X11_qSums_78 {E : sw_E} {d : Nat} (hd : 6 ≤ d) {p : Unit × sw_St} {σ : sw_St} {x1 : Int32} (h : S_X11_qSums_78 σ x1 = some p) : sw_W E sw_gM m_X11_qSums d 78 [(0, .ref 0), (1, .int x1)] [] σ (sw_pV p) := by
  unfold S_X11_qSums_78 at h
  cases h
  exact B_X11_qSums_78  ⟨rfl, rfl⟩
noncomputable def S_X11_qSums_53 (c53 : sw_St → Int32 → Option (Unit × sw_St)) (σ : sw_St) (x1 : Int32) : Option (Unit × sw_St) :=
  if (σ.1 0 5) = 0 then (if (σ.1 0 97) ≤ (σ.1 0 99) then (S_X11_qSums_78 σ x1) else ((F_X11_qDrops σ ).bind fun q1 => c53 q1.2 x1)) else (S_X11_qSums_78 σ x1)
theorem SC_X11_qSums_53 {E : sw_E} {d : Nat} (hd : 6 ≤ d) {p : Unit × sw_St} {c53 : sw_St → Int32 → Option (Unit × sw_St)} (h53 : ∀ (σ : sw_St) (x1 : Int32), c53 σ x1 = some p → sw_W E sw_gM m_X11_qSums d 53 [(0, .ref 0), (1, .int x1)] [] σ (sw_pV p)) {σ : sw_St} {x1 : Int32} (h : S_X11_qSums_53 c53 σ x1 = some p) : sw_W E sw_gM m_X11_qSums d 53 [(0, .ref 0), (1, .int x1)] [] σ (sw_pV p) := by
  unfold S_X11_qSums_53 at h
  refine B_X11_qSums_53  (fun hc => ?_) (fun hc => ?_)
  · rw [if_neg hc] at h
    exact SC_X11_qSums_78 hd h
  · rw [if_pos hc] at h
    refine B_X11_qSums_60  (fun hc => ?_) (fun hc => ?_)
    · rw [if_pos hc] at h
      exact SC_X11_qSums_78 hd h
    · rw [if_neg hc] at h
      obtain ⟨q1, hq, h⟩ := sw_bnd h
      refine B_X11_qSums_71  (FC_X11_qDrops (Nat.le_refl _) hq) (Nat.lt_of_lt_of_le (by decide) hd) (fun s hvs => ?_)
      subst hvs
      refine B_X11_qSums_75  ?_
      exact h53 _ _ h
noncomputable def L_X11_qSums_53 : Nat → sw_St → Int32 → Option (Unit × sw_St)
  | 0, _, _ => none
  | k + 1, σ, x1 => S_X11_qSums_53 (fun σ x1 => L_X11_qSums_53 k σ x1) σ x1
theorem LC_X11_qSums_53 {E : sw_E} {d : Nat} (hd : 6 ≤ d) {p : Unit × sw_St} : ∀ (k : Nat) (σ : sw_St) (x1 : Int32), L_X11_qSums_53 k σ x1 = some p → sw_W E sw_gM m_X11_qSums d 53 [(0, .ref 0), (1, .int x1)] [] σ (sw_pV p) := by
  intro k
  induction k with
  | zero => intro σ x1 h; cases h
  | succ k ih => intro σ x1 h; exact SC_X11_qSums_53 hd ih h
noncomputable def S_X11_qSums_49 (c15 : sw_St → Int32 → Int32 → Option (Unit × sw_St)) (σ : sw_St) (x1 : Int32) (sx0 : Int32) : Option (Unit × sw_St) :=
  c15 σ x1 sx0
theorem SC_X11_qSums_49 {E : sw_E} {d : Nat} (hd : 6 ≤ d) {p : Unit × sw_St} {c15 : sw_St → Int32 → Int32 → Option (Unit × sw_St)} (h15 : ∀ (σ : sw_St) (x1 : Int32) (x2 : Int32), c15 σ x1 x2 = some p → sw_W E sw_gM m_X11_qSums d 15 [(0, .ref 0), (1, .int x1), (2, .int x2)] [] σ (sw_pV p)) {σ : sw_St} {x1 : Int32} {sx0 : Int32} (h : S_X11_qSums_49 c15 σ x1 sx0 = some p) : sw_W E sw_gM m_X11_qSums d 49 [(0, .ref 0), (1, .int x1)] [.int sx0] σ (sw_pV p) := by
  unfold S_X11_qSums_49 at h
  refine B_X11_qSums_49  ?_
  exact h15 _ _ _ h
noncomputable def S_X11_qSums_48 (c15 : sw_St → Int32 → Int32 → Option (Unit × sw_St)) (σ : sw_St) (x1 : Int32) : Option (Unit × sw_St) :=
  S_X11_qSums_49 c15 σ x1 0
theorem SC_X11_qSums_48 {E : sw_E} {d : Nat} (hd : 6 ≤ d) {p : Unit × sw_St} {c15 : sw_St → Int32 → Int32 → Option (Unit × sw_St)} (h15 : ∀ (σ : sw_St) (x1 : Int32) (x2 : Int32), c15 σ x1 x2 = some p → sw_W E sw_gM m_X11_qSums d 15 [(0, .ref 0), (1, .int x1), (2, .int x2)] [] σ (sw_pV p)) {σ : sw_St} {x1 : Int32} (h : S_X11_qSums_48 c15 σ x1 = some p) : sw_W E sw_gM m_X11_qSums d 48 [(0, .ref 0), (1, .int x1)] [] σ (sw_pV p) := by
  unfold S_X11_qSums_48 at h
  refine B_X11_qSums_48  ?_
  exact SC_X11_qSums_49 hd h15 h
noncomputable def S_X11_qSums_15 (c15 : sw_St → Int32 → Int32 → Option (Unit × sw_St)) (σ : sw_St) (x1 : Int32) (x2 : Int32) : Option (Unit × sw_St) :=
  if x2 = 0 then (L_X11_qSums_53 sw_fuel σ x1) else (if (σ.1 0 5) = 0 then ((F_X11_qPartTold σ ).bind fun q1 => if (q1.2.1 0 5) = 0 then ((F_X11_qGoesOn q1.2 ).bind fun q2 => if q2.1 = 0 then (S_X11_qSums_48 c15 q2.2 x1) else (S_X11_qSums_49 c15 q2.2 x1 1)) else (S_X11_qSums_48 c15 q1.2 x1)) else (L_X11_qSums_53 sw_fuel σ x1))
theorem SC_X11_qSums_15 {E : sw_E} {d : Nat} (hd : 6 ≤ d) {p : Unit × sw_St} {c15 : sw_St → Int32 → Int32 → Option (Unit × sw_St)} (h15 : ∀ (σ : sw_St) (x1 : Int32) (x2 : Int32), c15 σ x1 x2 = some p → sw_W E sw_gM m_X11_qSums d 15 [(0, .ref 0), (1, .int x1), (2, .int x2)] [] σ (sw_pV p)) {σ : sw_St} {x1 : Int32} {x2 : Int32} (h : S_X11_qSums_15 c15 σ x1 x2 = some p) : sw_W E sw_gM m_X11_qSums d 15 [(0, .ref 0), (1, .int x1), (2, .int x2)] [] σ (sw_pV p) := by
  unfold S_X11_qSums_15 at h
  refine B_X11_qSums_15  (fun hc => ?_) (fun hc => ?_)
  · rw [if_pos hc] at h
    exact LC_X11_qSums_53 hd _ _ _ h
  · rw [if_neg hc] at h
    refine B_X11_qSums_19  (fun hc => ?_) (fun hc => ?_)
    · rw [if_neg hc] at h
      exact LC_X11_qSums_53 hd _ _ _ h
    · rw [if_pos hc] at h
      obtain ⟨q1, hq, h⟩ := sw_bnd h
      refine B_X11_qSums_26  (FC_X11_qPartTold (Nat.le_refl _) hq) (Nat.lt_of_lt_of_le (by decide) hd) (fun s hvs => ?_)
      subst hvs
      refine B_X11_qSums_30  (fun hc => ?_) (fun hc => ?_)
      · rw [if_neg hc] at h
        exact SC_X11_qSums_48 hd h15 h
      · rw [if_pos hc] at h
        obtain ⟨q2, hq, h⟩ := sw_bnd h
        refine B_X11_qSums_37  (FC_X11_qGoesOn (Nat.le_refl _) hq) (Nat.lt_of_lt_of_le (by decide) hd) (fun v s hvs => ?_)
        obtain ⟨hv1, hv2⟩ := hvs; subst hv1; subst hv2
        refine B_X11_qSums_41  (fun hc => ?_) (fun hc => ?_)
        · rw [if_pos hc] at h
          exact SC_X11_qSums_48 hd h15 h
        · rw [if_neg hc] at h
          refine B_X11_qSums_44  ?_
          exact SC_X11_qSums_49 hd h15 h
noncomputable def L_X11_qSums_15 : Nat → sw_St → Int32 → Int32 → Option (Unit × sw_St)
  | 0, _, _, _ => none
  | k + 1, σ, x1, x2 => S_X11_qSums_15 (fun σ x1 x2 => L_X11_qSums_15 k σ x1 x2) σ x1 x2
theorem LC_X11_qSums_15 {E : sw_E} {d : Nat} (hd : 6 ≤ d) {p : Unit × sw_St} : ∀ (k : Nat) (σ : sw_St) (x1 : Int32) (x2 : Int32), L_X11_qSums_15 k σ x1 x2 = some p → sw_W E sw_gM m_X11_qSums d 15 [(0, .ref 0), (1, .int x1), (2, .int x2)] [] σ (sw_pV p) := by
  intro k
  induction k with
  | zero => intro σ x1 x2 h; cases h
  | succ k ih => intro σ x1 x2 h; exact SC_X11_qSums_15 hd ih h
noncomputable def F_X11_qSums (σ : sw_St) : Option (Unit × sw_St) :=
  L_X11_qSums_15 sw_fuel (sw_uI σ 0 99 (σ.1 0 97)) (σ.1 0 99) 1
theorem FC_X11_qSums {E : sw_E} {d : Nat} (hd : 6 ≤ d) {p : Unit × sw_St} {σ : sw_St} (h : F_X11_qSums σ  = some p) : sw_KV E sw_gM m_X11_qSums d [.ref 0] σ (fun s => s = p.2) := by
  unfold F_X11_qSums at h
  refine sw_K.of (by decide +kernel) rfl (Nat.le_of_ble_eq_true rfl) ?_
  show sw_W E sw_gM m_X11_qSums d 0 [(0, .ref 0)] [] σ (sw_pV p)
  refine B_X11_qSums_0  ?_
  exact LC_X11_qSums_15 hd _ _ _ _ h
/-! StrayWoolModel.qFact()V -/
noncomputable def S_X11_qFact_102 (σ : sw_St) (sx0 : Int32) : Option (Unit × sw_St) :=
  (F_X11_qCode σ sx0).bind fun q1 => some ((), q1.2)
theorem SC_X11_qFact_102 {E : sw_E} {d : Nat} (hd : 7 ≤ d) {p : Unit × sw_St} {σ : sw_St} {sx0 : Int32} (h : S_X11_qFact_102 σ sx0 = some p) : sw_W E sw_gM m_X11_qFact d 102 [] [.int sx0, .ref 0] σ (sw_pV p) := by
  unfold S_X11_qFact_102 at h
  obtain ⟨q1, hq, h⟩ := sw_bnd h
  refine B_X11_qFact_102  (FC_X11_qCode (Nat.le_refl _) hq) (Nat.lt_of_lt_of_le (by decide) hd) (fun s hvs => ?_)
  subst hvs
  cases h
  exact B_X11_qFact_105  ⟨rfl, rfl⟩
noncomputable def S_X11_qFact_63 (σ : sw_St) (x1 : Int32) : Option (Unit × sw_St) :=
  (F_X11_qSums (sw_uI σ 0 2 ((σ.1 0 2) + 1)) ).bind fun q1 => if x1 = 60 then (S_X11_qFact_102 q1.2 7) else (if x1 = 62 then (S_X11_qFact_102 q1.2 8) else (S_X11_qFact_102 q1.2 9))
theorem SC_X11_qFact_63 {E : sw_E} {d : Nat} (hd : 7 ≤ d) {p : Unit × sw_St} {σ : sw_St} {x1 : Int32} (h : S_X11_qFact_63 σ x1 = some p) : sw_W E sw_gM m_X11_qFact d 63 [(0, .ref 0), (1, .int x1)] [] σ (sw_pV p) := by
  unfold S_X11_qFact_63 at h
  obtain ⟨q1, hq, h⟩ := sw_bnd h
  refine B_X11_qFact_63  (FC_X11_qSums (Nat.le_refl _) hq) (Nat.lt_of_lt_of_le (by decide) hd) (fun s hvs => ?_)
  subst hvs
  refine B_X11_qFact_77  (fun hc => ?_) (fun hc => ?_)
  · rw [if_neg hc] at h
    refine B_X11_qFact_89  (fun hc => ?_) (fun hc => ?_)
    · rw [if_neg hc] at h
      refine B_X11_qFact_100  ?_
      exact SC_X11_qFact_102 hd h
    · rw [if_pos hc] at h
      refine B_X11_qFact_95  ?_
      exact SC_X11_qFact_102 hd h
  · rw [if_pos hc] at h
    refine B_X11_qFact_84  ?_
    exact SC_X11_qFact_102 hd h
noncomputable def F_X11_qFact (σ : sw_St) : Option (Unit × sw_St) :=
  (F_X11_takes σ 56).bind fun q1 => if q1.1 = 0 then ((F_X11_qSums q1.2 ).bind fun q2 => if (q2.2.1 0 5) = 0 then ((F_X11_look q2.2 ).bind fun q3 => if q3.1 = 60 then (S_X11_qFact_63 q3.2 q3.1) else (if q3.1 = 62 then (S_X11_qFact_63 q3.2 q3.1) else (if q3.1 = 61 then (S_X11_qFact_63 q3.2 q3.1) else ((F_X11_fail q3.2 1 (q3.2.1 0 2)).bind fun q4 => some ((), q4.2))))) else (some ((), q2.2))) else ((F_X11_qCode q1.2 13).bind fun q5 => some ((), q5.2))
theorem FC_X11_qFact {E : sw_E} {d : Nat} (hd : 7 ≤ d) {p : Unit × sw_St} {σ : sw_St} (h : F_X11_qFact σ  = some p) : sw_KV E sw_gM m_X11_qFact d [.ref 0] σ (fun s => s = p.2) := by
  unfold F_X11_qFact at h
  refine sw_K.of (by decide +kernel) rfl (Nat.le_of_ble_eq_true rfl) ?_
  show sw_W E sw_gM m_X11_qFact d 0 [(0, .ref 0)] [] σ (sw_pV p)
  obtain ⟨q1, hq, h⟩ := sw_bnd h
  refine B_X11_qFact_0  (FC_X11_takes (Nat.le_refl _) hq) (Nat.lt_of_lt_of_le (by decide) hd) (fun v s hvs => ?_)
  obtain ⟨hv1, hv2⟩ := hvs; subst hv1; subst hv2
  refine B_X11_qFact_8  (fun hc => ?_) (fun hc => ?_)
  · rw [if_pos hc] at h
    obtain ⟨q2, hq, h⟩ := sw_bnd h
    refine B_X11_qFact_18  (FC_X11_qSums (Nat.le_refl _) hq) (Nat.lt_of_lt_of_le (by decide) hd) (fun s hvs => ?_)
    subst hvs
    refine B_X11_qFact_22  (fun hc => ?_) (fun hc => ?_)
    · rw [if_pos hc] at h
      obtain ⟨q3, hq, h⟩ := sw_bnd h
      refine B_X11_qFact_30  (FC_X11_look (Nat.le_refl _) hq) (Nat.lt_of_lt_of_le (by decide) hd) (fun v s hvs => ?_)
      obtain ⟨hv1, hv2⟩ := hvs; subst hv1; subst hv2
      refine B_X11_qFact_34  (fun hc => ?_) (fun hc => ?_)
      · rw [if_pos hc] at h
        exact SC_X11_qFact_63 hd h
      · rw [if_neg hc] at h
        refine B_X11_qFact_41  (fun hc => ?_) (fun hc => ?_)
        · rw [if_pos hc] at h
          exact SC_X11_qFact_63 hd h
        · rw [if_neg hc] at h
          refine B_X11_qFact_47  (fun hc => ?_) (fun hc => ?_)
          · rw [if_pos hc] at h
            exact SC_X11_qFact_63 hd h
          · rw [if_neg hc] at h
            obtain ⟨q4, hq, h⟩ := sw_bnd h
            refine B_X11_qFact_53  (FC_X11_fail (Nat.le_refl _) hq) (Nat.lt_of_lt_of_le (by decide) hd) (fun s hvs => ?_)
            subst hvs
            cases h
            exact B_X11_qFact_62  ⟨rfl, rfl⟩
    · rw [if_neg hc] at h
      cases h
      exact B_X11_qFact_29  ⟨rfl, rfl⟩
  · rw [if_neg hc] at h
    obtain ⟨q5, hq, h⟩ := sw_bnd h
    refine B_X11_qFact_11  (FC_X11_qCode (Nat.le_refl _) hq) (Nat.lt_of_lt_of_le (by decide) hd) (fun s hvs => ?_)
    subst hvs
    cases h
    exact B_X11_qFact_17  ⟨rfl, rfl⟩
/-! StrayWoolModel.qHasSquare()Z -/
noncomputable def S_X11_qHasSquare_2 (c2 : sw_St → Int32 → Option (Int32 × sw_St)) (σ : sw_St) (x1 : Int32) : Option (Int32 × sw_St) :=
  if (σ.1 0 97) ≤ x1 then (some (0, σ)) else (if sw_inb x1 1700 = true then (if (σ.1 72 x1.toNatClampNeg) = 25 then (some (1, σ)) else (c2 σ (x1 + 1))) else none)
theorem SC_X11_qHasSquare_2 {E : sw_E} {d : Nat} (hd : 0 ≤ d) {p : Int32 × sw_St} {c2 : sw_St → Int32 → Option (Int32 × sw_St)} (h2 : ∀ (σ : sw_St) (x1 : Int32), c2 σ x1 = some p → sw_W E sw_gM m_X11_qHasSquare d 2 [(0, .ref 0), (1, .int x1)] [] σ (sw_pI p)) {σ : sw_St} {x1 : Int32} (h : S_X11_qHasSquare_2 c2 σ x1 = some p) : sw_W E sw_gM m_X11_qHasSquare d 2 [(0, .ref 0), (1, .int x1)] [] σ (sw_pI p) := by
  unfold S_X11_qHasSquare_2 at h
  refine B_X11_qHasSquare_2  (fun hc => ?_) (fun hc => ?_)
  · rw [if_pos hc] at h
    cases h
    exact B_X11_qHasSquare_29  ⟨_, rfl, rfl, rfl⟩
  · rw [if_neg hc] at h
    obtain ⟨o1, h⟩ := sw_ifs h
    refine B_X11_qHasSquare_10 (sw_inb_sp o1) (fun hc => ?_) (fun hc => ?_)
    · rw [if_neg hc] at h
      refine B_X11_qHasSquare_23  ?_
      exact h2 _ _ h
    · rw [if_pos hc] at h
      cases h
      exact B_X11_qHasSquare_21  ⟨_, rfl, rfl, rfl⟩
noncomputable def L_X11_qHasSquare_2 : Nat → sw_St → Int32 → Option (Int32 × sw_St)
  | 0, _, _ => none
  | k + 1, σ, x1 => S_X11_qHasSquare_2 (fun σ x1 => L_X11_qHasSquare_2 k σ x1) σ x1
theorem LC_X11_qHasSquare_2 {E : sw_E} {d : Nat} (hd : 0 ≤ d) {p : Int32 × sw_St} : ∀ (k : Nat) (σ : sw_St) (x1 : Int32), L_X11_qHasSquare_2 k σ x1 = some p → sw_W E sw_gM m_X11_qHasSquare d 2 [(0, .ref 0), (1, .int x1)] [] σ (sw_pI p) := by
  intro k
  induction k with
  | zero => intro σ x1 h; cases h
  | succ k ih => intro σ x1 h; exact SC_X11_qHasSquare_2 hd ih h
noncomputable def F_X11_qHasSquare (σ : sw_St) : Option (Int32 × sw_St) :=
  L_X11_qHasSquare_2 sw_fuel σ 0
theorem FC_X11_qHasSquare {E : sw_E} {d : Nat} (hd : 0 ≤ d) {p : Int32 × sw_St} {σ : sw_St} (h : F_X11_qHasSquare σ  = some p) : sw_KI E sw_gM m_X11_qHasSquare d [.ref 0] σ (fun v s => v = p.1 ∧ s = p.2) := by
  unfold F_X11_qHasSquare at h
  refine sw_K.of (by decide +kernel) rfl (Nat.le_of_ble_eq_true rfl) ?_
  show sw_W E sw_gM m_X11_qHasSquare d 0 [(0, .ref 0)] [] σ (sw_pI p)
  refine B_X11_qHasSquare_0  ?_
  exact LC_X11_qHasSquare_2 hd _ _ _ h
/-! StrayWoolModel.qDropsNots()V -/
noncomputable def S_X11_qDropsNots_33 (σ : sw_St) : Option (Unit × sw_St) :=
  some ((), σ)
theorem SC_X11_qDropsNots_33 {E : sw_E} {d : Nat} (hd : 2 ≤ d) {p : Unit × sw_St} {σ : sw_St} (h : S_X11_qDropsNots_33 σ  = some p) : sw_W E sw_gM m_X11_qDropsNots d 33 [] [] σ (sw_pV p) := by
  unfold S_X11_qDropsNots_33 at h
  cases h
  exact B_X11_qDropsNots_33  ⟨rfl, rfl⟩
noncomputable def S_X11_qDropsNots_0 (c0 : sw_St → Option (Unit × sw_St)) (σ : sw_St) : Option (Unit × sw_St) :=
  if (σ.1 0 5) = 0 then ((F_X11_qIsOn σ 12).bind fun q1 => if q1.1 = 0 then (S_X11_qDropsNots_33 q1.2 ) else ((F_X11_qDrops (sw_uI q1.2 0 98 ((q1.2.1 0 98) - 1)) ).bind fun q2 => c0 q2.2 )) else (S_X11_qDropsNots_33 σ )
theorem SC_X11_qDropsNots_0 {E : sw_E} {d : Nat} (hd : 2 ≤ d) {p : Unit × sw_St} {c0 : sw_St → Option (Unit × sw_St)} (h0 : ∀ (σ : sw_St), c0 σ  = some p → sw_W E sw_gM m_X11_qDropsNots d 0 [(0, .ref 0)] [] σ (sw_pV p)) {σ : sw_St} (h : S_X11_qDropsNots_0 c0 σ  = some p) : sw_W E sw_gM m_X11_qDropsNots d 0 [(0, .ref 0)] [] σ (sw_pV p) := by
  unfold S_X11_qDropsNots_0 at h
  refine B_X11_qDropsNots_0  (fun hc => ?_) (fun hc => ?_)
  · rw [if_neg hc] at h
    exact SC_X11_qDropsNots_33 hd h
  · rw [if_pos hc] at h
    obtain ⟨q1, hq, h⟩ := sw_bnd h
    refine B_X11_qDropsNots_7  (FC_X11_qIsOn (Nat.le_refl _) hq) (Nat.lt_of_lt_of_le (by decide) hd) (fun v s hvs => ?_)
    obtain ⟨hv1, hv2⟩ := hvs; subst hv1; subst hv2
    refine B_X11_qDropsNots_13  (fun hc => ?_) (fun hc => ?_)
    · rw [if_pos hc] at h
      exact SC_X11_qDropsNots_33 hd h
    · rw [if_neg hc] at h
      obtain ⟨q2, hq, h⟩ := sw_bnd h
      refine B_X11_qDropsNots_16  (FC_X11_qDrops (Nat.le_refl _) hq) (Nat.lt_of_lt_of_le (by decide) hd) (fun s hvs => ?_)
      subst hvs
      refine B_X11_qDropsNots_30  ?_
      exact h0 _  h
noncomputable def L_X11_qDropsNots_0 : Nat → sw_St → Option (Unit × sw_St)
  | 0, _ => none
  | k + 1, σ => S_X11_qDropsNots_0 (fun σ => L_X11_qDropsNots_0 k σ ) σ 
theorem LC_X11_qDropsNots_0 {E : sw_E} {d : Nat} (hd : 2 ≤ d) {p : Unit × sw_St} : ∀ (k : Nat) (σ : sw_St), L_X11_qDropsNots_0 k σ  = some p → sw_W E sw_gM m_X11_qDropsNots d 0 [(0, .ref 0)] [] σ (sw_pV p) := by
  intro k
  induction k with
  | zero => intro σ h; cases h
  | succ k ih => intro σ h; exact SC_X11_qDropsNots_0 hd ih h
noncomputable def F_X11_qDropsNots (σ : sw_St) : Option (Unit × sw_St) :=
  L_X11_qDropsNots_0 sw_fuel σ 
theorem FC_X11_qDropsNots {E : sw_E} {d : Nat} (hd : 2 ≤ d) {p : Unit × sw_St} {σ : sw_St} (h : F_X11_qDropsNots σ  = some p) : sw_KV E sw_gM m_X11_qDropsNots d [.ref 0] σ (fun s => s = p.2) := by
  unfold F_X11_qDropsNots at h
  refine sw_K.of (by decide +kernel) rfl (Nat.le_of_ble_eq_true rfl) ?_
  show sw_W E sw_gM m_X11_qDropsNots d 0 [(0, .ref 0)] [] σ (sw_pV p)
  exact LC_X11_qDropsNots_0 hd _ _  h

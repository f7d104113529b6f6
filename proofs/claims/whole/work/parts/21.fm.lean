/-! StrayWoolModel.milesOf(I)I -/
noncomputable def F_X11_milesOf (σ : sw_St) (x1 : Int32) : Option (Int32 × sw_St) :=
  if sw_inb (32 + (3 * x1)) 60 = true then (some (σ.1 31 ((32 + (3 * x1)).toNatClampNeg), σ)) else none
theorem FC_X11_milesOf {E : sw_E} {d : Nat} (hd : 0 ≤ d) {p : Int32 × sw_St} {σ : sw_St} {x1 : Int32} (h : F_X11_milesOf σ x1 = some p) : sw_KI E sw_gM m_X11_milesOf d [.ref 0, .int x1] σ (fun v s => v = p.1 ∧ s = p.2) := by
  unfold F_X11_milesOf at h
  refine sw_K.of (by decide +kernel) rfl (Nat.le_of_ble_eq_true rfl) ?_
  show sw_W E sw_gM m_X11_milesOf d 0 [(0, .ref 0), (1, .int x1)] [] σ (sw_pI p)
  obtain ⟨o1, h⟩ := sw_ifs h
  cases h
  exact B_X11_milesOf_0 (sw_inb_sp o1) ⟨_, rfl, rfl, rfl⟩
/-! StrayWoolModel.fieldOf(I)I -/
noncomputable def F_X11_fieldOf (σ : sw_St) (x1 : Int32) : Option (Int32 × sw_St) :=
  if sw_inb (12 + (12 * x1)) 245 = true then (some (σ.1 37 ((12 + (12 * x1)).toNatClampNeg), σ)) else none
theorem FC_X11_fieldOf {E : sw_E} {d : Nat} (hd : 0 ≤ d) {p : Int32 × sw_St} {σ : sw_St} {x1 : Int32} (h : F_X11_fieldOf σ x1 = some p) : sw_KI E sw_gM m_X11_fieldOf d [.ref 0, .int x1] σ (fun v s => v = p.1 ∧ s = p.2) := by
  unfold F_X11_fieldOf at h
  refine sw_K.of (by decide +kernel) rfl (Nat.le_of_ble_eq_true rfl) ?_
  show sw_W E sw_gM m_X11_fieldOf d 0 [(0, .ref 0), (1, .int x1)] [] σ (sw_pI p)
  obtain ⟨o1, h⟩ := sw_ifs h
  cases h
  exact B_X11_fieldOf_0 (sw_inb_sp o1) ⟨_, rfl, rfl, rfl⟩
/-! StrayWoolModel.woolOf(I)I -/
noncomputable def F_X11_woolOf (σ : sw_St) (x1 : Int32) : Option (Int32 × sw_St) :=
  if sw_inb (13 + (12 * x1)) 245 = true then (some (σ.1 37 ((13 + (12 * x1)).toNatClampNeg), σ)) else none
theorem FC_X11_woolOf {E : sw_E} {d : Nat} (hd : 0 ≤ d) {p : Int32 × sw_St} {σ : sw_St} {x1 : Int32} (h : F_X11_woolOf σ x1 = some p) : sw_KI E sw_gM m_X11_woolOf d [.ref 0, .int x1] σ (fun v s => v = p.1 ∧ s = p.2) := by
  unfold F_X11_woolOf at h
  refine sw_K.of (by decide +kernel) rfl (Nat.le_of_ble_eq_true rfl) ?_
  show sw_W E sw_gM m_X11_woolOf d 0 [(0, .ref 0), (1, .int x1)] [] σ (sw_pI p)
  obtain ⟨o1, h⟩ := sw_ifs h
  cases h
  exact B_X11_woolOf_0 (sw_inb_sp o1) ⟨_, rfl, rfl, rfl⟩
/-! StrayWoolModel.crimpOf(I)I -/
noncomputable def F_X11_crimpOf (σ : sw_St) (x1 : Int32) : Option (Int32 × sw_St) :=
  if sw_inb (14 + (12 * x1)) 245 = true then (some (σ.1 37 ((14 + (12 * x1)).toNatClampNeg), σ)) else none
theorem FC_X11_crimpOf {E : sw_E} {d : Nat} (hd : 0 ≤ d) {p : Int32 × sw_St} {σ : sw_St} {x1 : Int32} (h : F_X11_crimpOf σ x1 = some p) : sw_KI E sw_gM m_X11_crimpOf d [.ref 0, .int x1] σ (fun v s => v = p.1 ∧ s = p.2) := by
  unfold F_X11_crimpOf at h
  refine sw_K.of (by decide +kernel) rfl (Nat.le_of_ble_eq_true rfl) ?_
  show sw_W E sw_gM m_X11_crimpOf d 0 [(0, .ref 0), (1, .int x1)] [] σ (sw_pI p)
  obtain ⟨o1, h⟩ := sw_ifs h
  cases h
  exact B_X11_crimpOf_0 (sw_inb_sp o1) ⟨_, rfl, rfl, rfl⟩
/-! StrayWoolModel.ledOf(I)I -/
noncomputable def F_X11_ledOf (σ : sw_St) (x1 : Int32) : Option (Int32 × sw_St) :=
  if sw_inb (15 + (12 * x1)) 245 = true then (some (σ.1 37 ((15 + (12 * x1)).toNatClampNeg), σ)) else none
theorem FC_X11_ledOf {E : sw_E} {d : Nat} (hd : 0 ≤ d) {p : Int32 × sw_St} {σ : sw_St} {x1 : Int32} (h : F_X11_ledOf σ x1 = some p) : sw_KI E sw_gM m_X11_ledOf d [.ref 0, .int x1] σ (fun v s => v = p.1 ∧ s = p.2) := by
  unfold F_X11_ledOf at h
  refine sw_K.of (by decide +kernel) rfl (Nat.le_of_ble_eq_true rfl) ?_
  show sw_W E sw_gM m_X11_ledOf d 0 [(0, .ref 0), (1, .int x1)] [] σ (sw_pI p)
  obtain ⟨o1, h⟩ := sw_ifs h
  cases h
  exact B_X11_ledOf_0 (sw_inb_sp o1) ⟨_, rfl, rfl, rfl⟩
/-! StrayWoolModel.seenOf(II)I -/
noncomputable def F_X11_seenOf (σ : sw_St) (x1 : Int32) (x2 : Int32) : Option (Int32 × sw_St) :=
  if sw_inb ((16 + (12 * x1)) + x2) 245 = true then (some (σ.1 37 (((16 + (12 * x1)) + x2).toNatClampNeg), σ)) else none
theorem FC_X11_seenOf {E : sw_E} {d : Nat} (hd : 0 ≤ d) {p : Int32 × sw_St} {σ : sw_St} {x1 : Int32} {x2 : Int32} (h : F_X11_seenOf σ x1 x2 = some p) : sw_KI E sw_gM m_X11_seenOf d [.ref 0, .int x1, .int x2] σ (fun v s => v = p.1 ∧ s = p.2) := by
  unfold F_X11_seenOf at h
  refine sw_K.of (by decide +kernel) rfl (Nat.le_of_ble_eq_true rfl) ?_
  show sw_W E sw_gM m_X11_seenOf d 0 [(0, .ref 0), (1, .int x1), (2, .int x2)] [] σ (sw_pI p)
  obtain ⟨o1, h⟩ := sw_ifs h
  cases h
  exact B_X11_seenOf_0 (sw_inb_sp o1) ⟨_, rfl, rfl, rfl⟩
/-! StrayWoolModel.homeOf(I)I -/
noncomputable def F_X11_homeOf (σ : sw_St) (x1 : Int32) : Option (Int32 × sw_St) :=
  if sw_inb (12 + (2 * x1)) 24 = true then (some (σ.1 33 ((12 + (2 * x1)).toNatClampNeg), σ)) else none
theorem FC_X11_homeOf {E : sw_E} {d : Nat} (hd : 0 ≤ d) {p : Int32 × sw_St} {σ : sw_St} {x1 : Int32} (h : F_X11_homeOf σ x1 = some p) : sw_KI E sw_gM m_X11_homeOf d [.ref 0, .int x1] σ (fun v s => v = p.1 ∧ s = p.2) := by
  unfold F_X11_homeOf at h
  refine sw_K.of (by decide +kernel) rfl (Nat.le_of_ble_eq_true rfl) ?_
  show sw_W E sw_gM m_X11_homeOf d 0 [(0, .ref 0), (1, .int x1)] [] σ (sw_pI p)
  obtain ⟨o1, h⟩ := sw_ifs h
  cases h
  exact B_X11_homeOf_0 (sw_inb_sp o1) ⟨_, rfl, rfl, rfl⟩
/-! StrayWoolModel.curiousOf(I)I -/
noncomputable def S_X11_curiousOf_26 (σ : sw_St) (sx0 : Int32) : Option (Int32 × sw_St) :=
  some (sx0, σ)
theorem SC_X11_curiousOf_26 {E : sw_E} {d : Nat} (hd : 0 ≤ d) {p : Int32 × sw_St} {σ : sw_St} {sx0 : Int32} (h : S_X11_curiousOf_26 σ sx0 = some p) : sw_W E sw_gM m_X11_curiousOf d 26 [] [.int sx0] σ (sw_pI p) := by
  unfold S_X11_curiousOf_26 at h
  cases h
  exact B_X11_curiousOf_26  ⟨_, rfl, rfl, rfl⟩
noncomputable def F_X11_curiousOf (σ : sw_St) (x1 : Int32) : Option (Int32 × sw_St) :=
  if x1 = (σ.1 0 52) then (S_X11_curiousOf_26 σ (σ.1 0 53)) else (if sw_inb (13 + (2 * x1)) 24 = true then (S_X11_curiousOf_26 σ (σ.1 33 ((13 + (2 * x1)).toNatClampNeg))) else none)
theorem FC_X11_curiousOf {E : sw_E} {d : Nat} (hd : 0 ≤ d) {p : Int32 × sw_St} {σ : sw_St} {x1 : Int32} (h : F_X11_curiousOf σ x1 = some p) : sw_KI E sw_gM m_X11_curiousOf d [.ref 0, .int x1] σ (fun v s => v = p.1 ∧ s = p.2) := by
  unfold F_X11_curiousOf at h
  refine sw_K.of (by decide +kernel) rfl (Nat.le_of_ble_eq_true rfl) ?_
  show sw_W E sw_gM m_X11_curiousOf d 0 [(0, .ref 0), (1, .int x1)] [] σ (sw_pI p)
  refine B_X11_curiousOf_0  (fun hc => ?_) (fun hc => ?_)
  · rw [if_neg hc] at h
    obtain ⟨o1, h⟩ := sw_ifs h
    refine B_X11_curiousOf_15 (sw_inb_sp o1) ?_
    exact SC_X11_curiousOf_26 hd h
  · rw [if_pos hc] at h
    refine B_X11_curiousOf_8  ?_
    exact SC_X11_curiousOf_26 hd h
/-! StrayWoolModel.acrossFrom(II)I -/
noncomputable def S_X11_acrossFrom_69 (σ : sw_St) (sx0 : Int32) : Option (Int32 × sw_St) :=
  some (sx0, σ)
theorem SC_X11_acrossFrom_69 {E : sw_E} {d : Nat} (hd : 1 ≤ d) {p : Int32 × sw_St} {σ : sw_St} {sx0 : Int32} (h : S_X11_acrossFrom_69 σ sx0 = some p) : sw_W E sw_gM m_X11_acrossFrom d 69 [] [.int sx0] σ (sw_pI p) := by
  unfold S_X11_acrossFrom_69 at h
  cases h
  exact B_X11_acrossFrom_69  ⟨_, rfl, rfl, rfl⟩
noncomputable def F_X11_acrossFrom (σ : sw_St) (x1 : Int32) (x2 : Int32) : Option (Int32 × sw_St) :=
  (F_X11_isOpen σ x2).bind fun q1 => if q1.1 = 0 then (some ((-1), q1.2)) else (if sw_inb (30 + (3 * x2)) 60 = true then (if (q1.2.1 31 ((30 + (3 * x2)).toNatClampNeg)) = x1 then (if sw_inb (31 + (3 * x2)) 60 = true then (S_X11_acrossFrom_69 q1.2 (q1.2.1 31 ((31 + (3 * x2)).toNatClampNeg))) else none) else (if sw_inb (31 + (3 * x2)) 60 = true then (if (q1.2.1 31 ((31 + (3 * x2)).toNatClampNeg)) = x1 then (if sw_inb (30 + (3 * x2)) 60 = true then (S_X11_acrossFrom_69 q1.2 (q1.2.1 31 ((30 + (3 * x2)).toNatClampNeg))) else none) else (S_X11_acrossFrom_69 q1.2 (-1))) else none)) else none)
theorem FC_X11_acrossFrom {E : sw_E} {d : Nat} (hd : 1 ≤ d) {p : Int32 × sw_St} {σ : sw_St} {x1 : Int32} {x2 : Int32} (h : F_X11_acrossFrom σ x1 x2 = some p) : sw_KI E sw_gM m_X11_acrossFrom d [.ref 0, .int x1, .int x2] σ (fun v s => v = p.1 ∧ s = p.2) := by
  unfold F_X11_acrossFrom at h
  refine sw_K.of (by decide +kernel) rfl (Nat.le_of_ble_eq_true rfl) ?_
  show sw_W E sw_gM m_X11_acrossFrom d 0 [(0, .ref 0), (1, .int x1), (2, .int x2)] [] σ (sw_pI p)
  obtain ⟨q1, hq, h⟩ := sw_bnd h
  refine B_X11_acrossFrom_0  (FC_X11_isOpen (Nat.le_refl _) hq) (Nat.lt_of_lt_of_le (by decide) hd) (fun v s hvs => ?_)
  obtain ⟨hv1, hv2⟩ := hvs; subst hv1; subst hv2
  refine B_X11_acrossFrom_5  (fun hc => ?_) (fun hc => ?_)
  · rw [if_neg hc] at h
    obtain ⟨o2, h⟩ := sw_ifs h
    refine B_X11_acrossFrom_10 (sw_inb_sp o2) (fun hc => ?_) (fun hc => ?_)
    · rw [if_neg hc] at h
      obtain ⟨o3, h⟩ := sw_ifs h
      refine B_X11_acrossFrom_39 (sw_inb_sp o3) (fun hc => ?_) (fun hc => ?_)
      · rw [if_neg hc] at h
        refine B_X11_acrossFrom_68  ?_
        exact SC_X11_acrossFrom_69 hd h
      · rw [if_pos hc] at h
        obtain ⟨o4, h⟩ := sw_ifs h
        refine B_X11_acrossFrom_54 (sw_inb_sp o4) ?_
        exact SC_X11_acrossFrom_69 hd h
    · rw [if_pos hc] at h
      obtain ⟨o5, h⟩ := sw_ifs h
      refine B_X11_acrossFrom_25 (sw_inb_sp o5) ?_
      exact SC_X11_acrossFrom_69 hd h
  · rw [if_pos hc] at h
    cases h
    exact B_X11_acrossFrom_8  ⟨_, rfl, rfl, rfl⟩
/-! StrayWoolModel.beyond(II)I -/
noncomputable def F_X11_beyond (σ : sw_St) (x1 : Int32) (x2 : Int32) : Option (Int32 × sw_St) :=
  (F_X11_fieldOf σ x1).bind fun q1 => (F_X11_acrossFrom q1.2 q1.1 x2).bind fun q2 => some (q2.1, q2.2)
theorem FC_X11_beyond {E : sw_E} {d : Nat} (hd : 2 ≤ d) {p : Int32 × sw_St} {σ : sw_St} {x1 : Int32} {x2 : Int32} (h : F_X11_beyond σ x1 x2 = some p) : sw_KI E sw_gM m_X11_beyond d [.ref 0, .int x1, .int x2] σ (fun v s => v = p.1 ∧ s = p.2) := by
  unfold F_X11_beyond at h
  refine sw_K.of (by decide +kernel) rfl (Nat.le_of_ble_eq_true rfl) ?_
  show sw_W E sw_gM m_X11_beyond d 0 [(0, .ref 0), (1, .int x1), (2, .int x2)] [] σ (sw_pI p)
  obtain ⟨q1, hq, h⟩ := sw_bnd h
  refine B_X11_beyond_0  (FC_X11_fieldOf (Nat.le_refl _) hq) (Nat.lt_of_lt_of_le (by decide) hd) (fun v s hvs => ?_)
  obtain ⟨hv1, hv2⟩ := hvs; subst hv1; subst hv2
  obtain ⟨q2, hq, h⟩ := sw_bnd h
  refine B_X11_beyond_6  (FC_X11_acrossFrom (Nat.le_refl _) hq) (Nat.lt_of_lt_of_le (by decide) hd) (fun v s hvs => ?_)
  obtain ⟨hv1, hv2⟩ := hvs; subst hv1; subst hv2
  cases h
  exact B_X11_beyond_10  ⟨_, rfl, rfl, rfl⟩
/-! StrayWoolModel.isTold(I)Z -/
noncomputable def S_X11_isTold_17 (σ : sw_St) (sx0 : Int32) : Option (Int32 × sw_St) :=
  if sx0 = 0 ∨ sx0 = 1 then some (sx0, σ) else none
theorem SC_X11_isTold_17 {E : sw_E} {d : Nat} (hd : 0 ≤ d) {p : Int32 × sw_St} {σ : sw_St} {sx0 : Int32} (h : S_X11_isTold_17 σ sx0 = some p) : sw_W E sw_gM m_X11_isTold d 17 [] [.int sx0] σ (sw_pI p) := by
  unfold S_X11_isTold_17 at h
  obtain ⟨hz, h⟩ := sw_ifs h
  cases h
  exact B_X11_isTold_17  hz ⟨_, rfl, rfl, rfl⟩
noncomputable def F_X11_isTold (σ : sw_St) (x1 : Int32) : Option (Int32 × sw_St) :=
  if sw_inb (3 + x1) 6 = true then (if (σ.1 34 ((3 + x1).toNatClampNeg)) = (-1) then (S_X11_isTold_17 σ 0) else (S_X11_isTold_17 σ 1)) else none
theorem FC_X11_isTold {E : sw_E} {d : Nat} (hd : 0 ≤ d) {p : Int32 × sw_St} {σ : sw_St} {x1 : Int32} (h : F_X11_isTold σ x1 = some p) : sw_KI E sw_gM m_X11_isTold d [.ref 0, .int x1] σ (fun v s => v = p.1 ∧ s = p.2) := by
  unfold F_X11_isTold at h
  refine sw_K.of (by decide +kernel) rfl (Nat.le_of_ble_eq_true rfl) ?_
  show sw_W E sw_gM m_X11_isTold d 0 [(0, .ref 0), (1, .int x1)] [] σ (sw_pI p)
  obtain ⟨o1, h⟩ := sw_ifs h
  refine B_X11_isTold_0 (sw_inb_sp o1) (fun hc => ?_) (fun hc => ?_)
  · rw [if_pos hc] at h
    refine B_X11_isTold_16  ?_
    exact SC_X11_isTold_17 hd h
  · rw [if_neg hc] at h
    refine B_X11_isTold_12  ?_
    exact SC_X11_isTold_17 hd h
/-! StrayWoolModel.least(II)I -/
noncomputable def S_X11_least_10 (σ : sw_St) (sx0 : Int32) : Option (Int32 × sw_St) :=
  some (sx0, σ)
theorem SC_X11_least_10 {E : sw_E} {d : Nat} (hd : 0 ≤ d) {p : Int32 × sw_St} {σ : sw_St} {sx0 : Int32} (h : S_X11_least_10 σ sx0 = some p) : sw_W E sw_gM m_X11_least d 10 [] [.int sx0] σ (sw_pI p) := by
  unfold S_X11_least_10 at h
  cases h
  exact B_X11_least_10  ⟨_, rfl, rfl, rfl⟩
noncomputable def F_X11_least (σ : sw_St) (x0 : Int32) (x1 : Int32) : Option (Int32 × sw_St) :=
  if x1 ≤ x0 then (S_X11_least_10 σ x1) else (S_X11_least_10 σ x0)
theorem FC_X11_least {E : sw_E} {d : Nat} (hd : 0 ≤ d) {p : Int32 × sw_St} {σ : sw_St} {x0 : Int32} {x1 : Int32} (h : F_X11_least σ x0 x1 = some p) : sw_KI E sw_gM m_X11_least d [.int x0, .int x1] σ (fun v s => v = p.1 ∧ s = p.2) := by
  unfold F_X11_least at h
  refine sw_K.of (by decide +kernel) rfl (Nat.le_of_ble_eq_true rfl) ?_
  show sw_W E sw_gM m_X11_least d 0 [(0, .int x0), (1, .int x1)] [] σ (sw_pI p)
  refine B_X11_least_0  (fun hc => ?_) (fun hc => ?_)
  · rw [if_pos hc] at h
    refine B_X11_least_9  ?_
    exact SC_X11_least_10 hd h
  · rw [if_neg hc] at h
    refine B_X11_least_5  ?_
    exact SC_X11_least_10 hd h
/-! StrayWoolModel.goesThrough(II)V -/
noncomputable def F_X11_goesThrough (σ : sw_St) (x1 : Int32) (x2 : Int32) : Option (Unit × sw_St) :=
  (F_X11_beyond σ x1 x2).bind fun q1 => if sw_inb (12 + (12 * x1)) 245 = true then ((F_X11_woolOf (sw_uI q1.2 37 ((12 + (12 * x1)).toNatClampNeg) q1.1) x1).bind fun q3 => (F_X11_milesOf q3.2 x2).bind fun q4 => (F_X11_least q4.2 999 (q3.1 + q4.1)).bind fun q5 => if sw_inb ((12 + (12 * x1)) + 1) 245 = true then ((F_X11_crimpOf (sw_uI q5.2 37 ((12 + (12 * x1)) + 1).toNatClampNeg q5.1) x1).bind fun q7 => if sw_inb ((12 + (12 * x1)) + 2) 245 = true then ((F_X11_seenOf (sw_uI q7.2 37 ((12 + (12 * x1)) + 2).toNatClampNeg ((((3 * q7.1) + x2) + 1) - (((3 * q7.1) + x2) + 1) / 64 * 64)) x1 q1.1).bind fun q9 => (F_X11_least q9.2 99 (q9.1 + 1)).bind fun q10 => if sw_inb (((12 + (12 * x1)) + 4) + q1.1) 245 = true then (some ((), (sw_uI q10.2 37 (((12 + (12 * x1)) + 4) + q1.1).toNatClampNeg q10.1))) else none) else none) else none) else none
theorem FC_X11_goesThrough {E : sw_E} {d : Nat} (hd : 3 ≤ d) {p : Unit × sw_St} {σ : sw_St} {x1 : Int32} {x2 : Int32} (h : F_X11_goesThrough σ x1 x2 = some p) : sw_KV E sw_gM m_X11_goesThrough d [.ref 0, .int x1, .int x2] σ (fun s => s = p.2) := by
  unfold F_X11_goesThrough at h
  refine sw_K.of (by decide +kernel) rfl (Nat.le_of_ble_eq_true rfl) ?_
  show sw_W E sw_gM m_X11_goesThrough d 0 [(0, .ref 0), (1, .int x1), (2, .int x2)] [] σ (sw_pV p)
  obtain ⟨q1, hq, h⟩ := sw_bnd h
  refine B_X11_goesThrough_0  (FC_X11_beyond (Nat.le_refl _) hq) (Nat.lt_of_lt_of_le (by decide) hd) (fun v s hvs => ?_)
  obtain ⟨hv1, hv2⟩ := hvs; subst hv1; subst hv2
  obtain ⟨o2, h⟩ := sw_ifs h
  obtain ⟨q3, hq, h⟩ := sw_bnd h
  refine B_X11_goesThrough_6 (sw_inb_sp o2) (FC_X11_woolOf (Nat.le_refl _) hq) (Nat.lt_of_lt_of_le (by decide) hd) (fun v s hvs => ?_)
  obtain ⟨hv1, hv2⟩ := hvs; subst hv1; subst hv2
  obtain ⟨q4, hq, h⟩ := sw_bnd h
  refine B_X11_goesThrough_40  (FC_X11_milesOf (Nat.le_refl _) hq) (Nat.lt_of_lt_of_le (by decide) hd) (fun v s hvs => ?_)
  obtain ⟨hv1, hv2⟩ := hvs; subst hv1; subst hv2
  obtain ⟨q5, hq, h⟩ := sw_bnd h
  refine B_X11_goesThrough_45  (FC_X11_least (Nat.le_refl _) hq) (Nat.lt_of_lt_of_le (by decide) hd) (fun v s hvs => ?_)
  obtain ⟨hv1, hv2⟩ := hvs; subst hv1; subst hv2
  obtain ⟨o6, h⟩ := sw_ifs h
  obtain ⟨q7, hq, h⟩ := sw_bnd h
  refine B_X11_goesThrough_49 (sw_inb_sp o6) (FC_X11_crimpOf (Nat.le_refl _) hq) (Nat.lt_of_lt_of_le (by decide) hd) (fun v s hvs => ?_)
  obtain ⟨hv1, hv2⟩ := hvs; subst hv1; subst hv2
  obtain ⟨o8, h⟩ := sw_ifs h
  obtain ⟨q9, hq, h⟩ := sw_bnd h
  refine B_X11_goesThrough_64 (sw_inb_sp o8) (FC_X11_seenOf (Nat.le_refl _) hq) (Nat.lt_of_lt_of_le (by decide) hd) (fun v s hvs => ?_)
  obtain ⟨hv1, hv2⟩ := hvs; subst hv1; subst hv2
  obtain ⟨q10, hq, h⟩ := sw_bnd h
  refine B_X11_goesThrough_91  (FC_X11_least (Nat.le_refl _) hq) (Nat.lt_of_lt_of_le (by decide) hd) (fun v s hvs => ?_)
  obtain ⟨hv1, hv2⟩ := hvs; subst hv1; subst hv2
  obtain ⟨o11, h⟩ := sw_ifs h
  cases h
  exact B_X11_goesThrough_96 (sw_inb_sp o11) ⟨rfl, rfl⟩
/-! StrayWoolModel.isKept(II)V -/
noncomputable def S_X11_isKept_64 (σ : sw_St) (x1 : Int32) (x2 : Int32) : Option (Unit × sw_St) :=
  if sw_inb ((85 + (4 * (σ.1 37 84))) - 4) 245 = true then (if sw_inb (((85 + (4 * (σ.1 37 84))) - 4) + 1) 245 = true then (if sw_inb (((85 + (4 * (σ.1 37 84))) - 4) + 2) 245 = true then ((F_X11_woolOf (sw_uI (sw_uI (sw_uI σ 37 (((85 + (4 * (σ.1 37 84))) - 4).toNatClampNeg) (σ.1 37 0)) 37 ((((85 + (4 * (σ.1 37 84))) - 4) + 1).toNatClampNeg) x1) 37 ((((85 + (4 * (σ.1 37 84))) - 4) + 2).toNatClampNeg) x2) x1).bind fun q4 => if sw_inb (((85 + (4 * (σ.1 37 84))) - 4) + 3) 245 = true then (some ((), (sw_uI q4.2 37 (((85 + (4 * (σ.1 37 84))) - 4) + 3).toNatClampNeg q4.1))) else none) else none) else none) else none
theorem SC_X11_isKept_64 {E : sw_E} {d : Nat} (hd : 1 ≤ d) {p : Unit × sw_St} {σ : sw_St} {x1 : Int32} {x2 : Int32} (h : S_X11_isKept_64 σ x1 x2 = some p) : sw_W E sw_gM m_X11_isKept d 64 [(0, .ref 0), (1, .int x1), (2, .int x2)] [] σ (sw_pV p) := by
  unfold S_X11_isKept_64 at h
  obtain ⟨o1, h⟩ := sw_ifs h
  obtain ⟨o2, h⟩ := sw_ifs h
  obtain ⟨o3, h⟩ := sw_ifs h
  obtain ⟨q4, hq, h⟩ := sw_bnd h
  refine B_X11_isKept_64 (sw_inb_sp o1) (sw_inb_sp o2) (sw_inb_sp o3) (FC_X11_woolOf (Nat.le_refl _) hq) (Nat.lt_of_lt_of_le (by decide) hd) (fun v s hvs => ?_)
  obtain ⟨hv1, hv2⟩ := hvs; subst hv1; subst hv2
  obtain ⟨o5, h⟩ := sw_ifs h
  cases h
  exact B_X11_isKept_121 (sw_inb_sp o5) ⟨rfl, rfl⟩
noncomputable def S_X11_isKept_23 (c23 : sw_St → Int32 → Int32 → Int32 → Option (Unit × sw_St)) (σ : sw_St) (x1 : Int32) (x2 : Int32) (x3 : Int32) : Option (Unit × sw_St) :=
  if 241 ≤ x3 then (S_X11_isKept_64 σ x1 x2) else (if sw_inb (x3 + 4) 245 = true then (if sw_inb x3 245 = true then (c23 (sw_uI σ 37 x3.toNatClampNeg (σ.1 37 ((x3 + 4).toNatClampNeg))) x1 x2 (x3 + 1)) else none) else none)
theorem SC_X11_isKept_23 {E : sw_E} {d : Nat} (hd : 1 ≤ d) {p : Unit × sw_St} {c23 : sw_St → Int32 → Int32 → Int32 → Option (Unit × sw_St)} (h23 : ∀ (σ : sw_St) (x1 : Int32) (x2 : Int32) (x3 : Int32), c23 σ x1 x2 x3 = some p → sw_W E sw_gM m_X11_isKept d 23 [(0, .ref 0), (1, .int x1), (2, .int x2), (3, .int x3)] [] σ (sw_pV p)) {σ : sw_St} {x1 : Int32} {x2 : Int32} {x3 : Int32} (h : S_X11_isKept_23 c23 σ x1 x2 x3 = some p) : sw_W E sw_gM m_X11_isKept d 23 [(0, .ref 0), (1, .int x1), (2, .int x2), (3, .int x3)] [] σ (sw_pV p) := by
  unfold S_X11_isKept_23 at h
  refine B_X11_isKept_23  (fun hc => ?_) (fun hc => ?_)
  · rw [if_pos hc] at h
    refine B_X11_isKept_50  ?_
    exact SC_X11_isKept_64 hd h
  · rw [if_neg hc] at h
    obtain ⟨o1, h⟩ := sw_ifs h
    obtain ⟨o2, h⟩ := sw_ifs h
    refine B_X11_isKept_30 (sw_inb_sp o1) (sw_inb_sp o2) ?_
    exact h23 _ _ _ _ h
noncomputable def L_X11_isKept_23 : Nat → sw_St → Int32 → Int32 → Int32 → Option (Unit × sw_St)
  | 0, _, _, _, _ => none
  | k + 1, σ, x1, x2, x3 => S_X11_isKept_23 (fun σ x1 x2 x3 => L_X11_isKept_23 k σ x1 x2 x3) σ x1 x2 x3
theorem LC_X11_isKept_23 {E : sw_E} {d : Nat} (hd : 1 ≤ d) {p : Unit × sw_St} : ∀ (k : Nat) (σ : sw_St) (x1 : Int32) (x2 : Int32) (x3 : Int32), L_X11_isKept_23 k σ x1 x2 x3 = some p → sw_W E sw_gM m_X11_isKept d 23 [(0, .ref 0), (1, .int x1), (2, .int x2), (3, .int x3)] [] σ (sw_pV p) := by
  intro k
  induction k with
  | zero => intro σ x1 x2 x3 h; cases h
  | succ k ih => intro σ x1 x2 x3 h; exact SC_X11_isKept_23 hd ih h
noncomputable def F_X11_isKept (σ : sw_St) (x1 : Int32) (x2 : Int32) : Option (Unit × sw_St) :=
  if (σ.1 0 58) = 0 then (if (σ.1 37 84) = 40 then (L_X11_isKept_23 sw_fuel σ x1 x2 85) else (S_X11_isKept_64 (sw_uI σ 37 84 ((σ.1 37 84) + 1)) x1 x2)) else (some ((), σ))
theorem FC_X11_isKept {E : sw_E} {d : Nat} (hd : 1 ≤ d) {p : Unit × sw_St} {σ : sw_St} {x1 : Int32} {x2 : Int32} (h : F_X11_isKept σ x1 x2 = some p) : sw_KV E sw_gM m_X11_isKept d [.ref 0, .int x1, .int x2] σ (fun s => s = p.2) := by
  unfold F_X11_isKept at h
  refine sw_K.of (by decide +kernel) rfl (Nat.le_of_ble_eq_true rfl) ?_
  show sw_W E sw_gM m_X11_isKept d 0 [(0, .ref 0), (1, .int x1), (2, .int x2)] [] σ (sw_pV p)
  refine B_X11_isKept_0  (fun hc => ?_) (fun hc => ?_)
  · rw [if_pos hc] at h
    refine B_X11_isKept_8  (fun hc => ?_) (fun hc => ?_)
    · rw [if_neg hc] at h
      refine B_X11_isKept_53  ?_
      exact SC_X11_isKept_64 hd h
    · rw [if_pos hc] at h
      refine B_X11_isKept_20  ?_
      exact LC_X11_isKept_23 hd _ _ _ _ _ h
  · rw [if_neg hc] at h
    cases h
    exact B_X11_isKept_7  ⟨rfl, rfl⟩
/-! StrayWoolModel.putsAside()V -/
noncomputable def S_X11_putsAside_7 (c7 : sw_St → Int32 → Option (Unit × sw_St)) (σ : sw_St) (x1 : Int32) : Option (Unit × sw_St) :=
  if 84 ≤ x1 then (some ((), σ)) else (if sw_inb x1 245 = true then (if sw_inb x1 84 = true then (c7 (sw_uI σ 38 x1.toNatClampNeg (σ.1 37 x1.toNatClampNeg)) (x1 + 1)) else none) else none)
theorem SC_X11_putsAside_7 {E : sw_E} {d : Nat} (hd : 0 ≤ d) {p : Unit × sw_St} {c7 : sw_St → Int32 → Option (Unit × sw_St)} (h7 : ∀ (σ : sw_St) (x1 : Int32), c7 σ x1 = some p → sw_W E sw_gM m_X11_putsAside d 7 [(0, .ref 0), (1, .int x1)] [] σ (sw_pV p)) {σ : sw_St} {x1 : Int32} (h : S_X11_putsAside_7 c7 σ x1 = some p) : sw_W E sw_gM m_X11_putsAside d 7 [(0, .ref 0), (1, .int x1)] [] σ (sw_pV p) := by
  unfold S_X11_putsAside_7 at h
  refine B_X11_putsAside_7  (fun hc => ?_) (fun hc => ?_)
  · rw [if_pos hc] at h
    cases h
    exact B_X11_putsAside_31  ⟨rfl, rfl⟩
  · rw [if_neg hc] at h
    obtain ⟨o1, h⟩ := sw_ifs h
    obtain ⟨o2, h⟩ := sw_ifs h
    refine B_X11_putsAside_13 (sw_inb_sp o1) (sw_inb_sp o2) ?_
    exact h7 _ _ h
noncomputable def L_X11_putsAside_7 : Nat → sw_St → Int32 → Option (Unit × sw_St)
  | 0, _, _ => none
  | k + 1, σ, x1 => S_X11_putsAside_7 (fun σ x1 => L_X11_putsAside_7 k σ x1) σ x1
theorem LC_X11_putsAside_7 {E : sw_E} {d : Nat} (hd : 0 ≤ d) {p : Unit × sw_St} : ∀ (k : Nat) (σ : sw_St) (x1 : Int32), L_X11_putsAside_7 k σ x1 = some p → sw_W E sw_gM m_X11_putsAside d 7 [(0, .ref 0), (1, .int x1)] [] σ (sw_pV p) := by
  intro k
  induction k with
  | zero => intro σ x1 h; cases h
  | succ k ih => intro σ x1 h; exact SC_X11_putsAside_7 hd ih h
noncomputable def F_X11_putsAside (σ : sw_St) : Option (Unit × sw_St) :=
  L_X11_putsAside_7 sw_fuel (sw_uI σ 0 58 1) 0
theorem FC_X11_putsAside {E : sw_E} {d : Nat} (hd : 0 ≤ d) {p : Unit × sw_St} {σ : sw_St} (h : F_X11_putsAside σ  = some p) : sw_KV E sw_gM m_X11_putsAside d [.ref 0] σ (fun s => s = p.2) := by
  unfold F_X11_putsAside at h
  refine sw_K.of (by decide +kernel) rfl (Nat.le_of_ble_eq_true rfl) ?_
  show sw_W E sw_gM m_X11_putsAside d 0 [(0, .ref 0)] [] σ (sw_pV p)
  refine B_X11_putsAside_0  ?_
  exact LC_X11_putsAside_7 hd _ _ _ h
/-! StrayWoolModel.triesAnew()V -/
noncomputable def S_X11_triesAnew_2 (c2 : sw_St → Int32 → Option (Unit × sw_St)) (σ : sw_St) (x1 : Int32) : Option (Unit × sw_St) :=
  if 84 ≤ x1 then (some ((), σ)) else (if sw_inb x1 84 = true then (if sw_inb x1 245 = true then (c2 (sw_uI σ 37 x1.toNatClampNeg (σ.1 38 x1.toNatClampNeg)) (x1 + 1)) else none) else none)
theorem SC_X11_triesAnew_2 {E : sw_E} {d : Nat} (hd : 0 ≤ d) {p : Unit × sw_St} {c2 : sw_St → Int32 → Option (Unit × sw_St)} (h2 : ∀ (σ : sw_St) (x1 : Int32), c2 σ x1 = some p → sw_W E sw_gM m_X11_triesAnew d 2 [(0, .ref 0), (1, .int x1)] [] σ (sw_pV p)) {σ : sw_St} {x1 : Int32} (h : S_X11_triesAnew_2 c2 σ x1 = some p) : sw_W E sw_gM m_X11_triesAnew d 2 [(0, .ref 0), (1, .int x1)] [] σ (sw_pV p) := by
  unfold S_X11_triesAnew_2 at h
  refine B_X11_triesAnew_2  (fun hc => ?_) (fun hc => ?_)
  · rw [if_pos hc] at h
    cases h
    exact B_X11_triesAnew_26  ⟨rfl, rfl⟩
  · rw [if_neg hc] at h
    obtain ⟨o1, h⟩ := sw_ifs h
    obtain ⟨o2, h⟩ := sw_ifs h
    refine B_X11_triesAnew_8 (sw_inb_sp o1) (sw_inb_sp o2) ?_
    exact h2 _ _ h
noncomputable def L_X11_triesAnew_2 : Nat → sw_St → Int32 → Option (Unit × sw_St)
  | 0, _, _ => none
  | k + 1, σ, x1 => S_X11_triesAnew_2 (fun σ x1 => L_X11_triesAnew_2 k σ x1) σ x1
theorem LC_X11_triesAnew_2 {E : sw_E} {d : Nat} (hd : 0 ≤ d) {p : Unit × sw_St} : ∀ (k : Nat) (σ : sw_St) (x1 : Int32), L_X11_triesAnew_2 k σ x1 = some p → sw_W E sw_gM m_X11_triesAnew d 2 [(0, .ref 0), (1, .int x1)] [] σ (sw_pV p) := by
  intro k
  induction k with
  | zero => intro σ x1 h; cases h
  | succ k ih => intro σ x1 h; exact SC_X11_triesAnew_2 hd ih h
noncomputable def F_X11_triesAnew (σ : sw_St) : Option (Unit × sw_St) :=
  L_X11_triesAnew_2 sw_fuel σ 0
theorem FC_X11_triesAnew {E : sw_E} {d : Nat} (hd : 0 ≤ d) {p : Unit × sw_St} {σ : sw_St} (h : F_X11_triesAnew σ  = some p) : sw_KV E sw_gM m_X11_triesAnew d [.ref 0] σ (fun s => s = p.2) := by
  unfold F_X11_triesAnew at h
  refine sw_K.of (by decide +kernel) rfl (Nat.le_of_ble_eq_true rfl) ?_
  show sw_W E sw_gM m_X11_triesAnew d 0 [(0, .ref 0)] [] σ (sw_pV p)
  refine B_X11_triesAnew_0  ?_
  exact LC_X11_triesAnew_2 hd _ _ _ h
/-! StrayWoolModel.takesBack()V -/
noncomputable def F_X11_takesBack (σ : sw_St) : Option (Unit × sw_St) :=
  (F_X11_triesAnew σ ).bind fun q1 => some ((), (sw_uI (sw_uI q1.2 0 52 (-1)) 0 58 0))
theorem FC_X11_takesBack {E : sw_E} {d : Nat} (hd : 1 ≤ d) {p : Unit × sw_St} {σ : sw_St} (h : F_X11_takesBack σ  = some p) : sw_KV E sw_gM m_X11_takesBack d [.ref 0] σ (fun s => s = p.2) := by
  unfold F_X11_takesBack at h
  refine sw_K.of (by decide +kernel) rfl (Nat.le_of_ble_eq_true rfl) ?_
  show sw_W E sw_gM m_X11_takesBack d 0 [(0, .ref 0)] [] σ (sw_pV p)
  obtain ⟨q1, hq, h⟩ := sw_bnd h
  refine B_X11_takesBack_0  (FC_X11_triesAnew (Nat.le_refl _) hq) (Nat.lt_of_lt_of_le (by decide) hd) (fun s hvs => ?_)
  subst hvs
  cases h
  exact B_X11_takesBack_4  ⟨rfl, rfl⟩
/-! StrayWoolModel.isAhead(III)Z -/
noncomputable def S_X11_isAhead_31 (σ : sw_St) (sx0 : Int32) : Option (Int32 × sw_St) :=
  if sx0 = 0 ∨ sx0 = 1 then some (sx0, σ) else none
theorem SC_X11_isAhead_31 {E : sw_E} {d : Nat} (hd : 1 ≤ d) {p : Int32 × sw_St} {σ : sw_St} {sx0 : Int32} (h : S_X11_isAhead_31 σ sx0 = some p) : sw_W E sw_gM m_X11_isAhead d 31 [] [.int sx0] σ (sw_pI p) := by
  unfold S_X11_isAhead_31 at h
  obtain ⟨hz, h⟩ := sw_ifs h
  cases h
  exact B_X11_isAhead_31  hz ⟨_, rfl, rfl, rfl⟩
noncomputable def S_X11_isAhead_30 (σ : sw_St) : Option (Int32 × sw_St) :=
  S_X11_isAhead_31 σ 0
theorem SC_X11_isAhead_30 {E : sw_E} {d : Nat} (hd : 1 ≤ d) {p : Int32 × sw_St} {σ : sw_St} (h : S_X11_isAhead_30 σ  = some p) : sw_W E sw_gM m_X11_isAhead d 30 [] [] σ (sw_pI p) := by
  unfold S_X11_isAhead_30 at h
  refine B_X11_isAhead_30  ?_
  exact SC_X11_isAhead_31 hd h
noncomputable def F_X11_isAhead (σ : sw_St) (x1 : Int32) (x2 : Int32) (x3 : Int32) : Option (Int32 × sw_St) :=
  (F_X11_isIn σ x1.toInt64 x2.toInt64 x3.toInt64).bind fun q1 => if q1.1 = 0 then (S_X11_isAhead_30 q1.2 ) else (if 999 < ((q1.2.1 37 0) + x1) then (S_X11_isAhead_30 q1.2 ) else (S_X11_isAhead_31 q1.2 1))
theorem FC_X11_isAhead {E : sw_E} {d : Nat} (hd : 1 ≤ d) {p : Int32 × sw_St} {σ : sw_St} {x1 : Int32} {x2 : Int32} {x3 : Int32} (h : F_X11_isAhead σ x1 x2 x3 = some p) : sw_KI E sw_gM m_X11_isAhead d [.ref 0, .int x1, .int x2, .int x3] σ (fun v s => v = p.1 ∧ s = p.2) := by
  unfold F_X11_isAhead at h
  refine sw_K.of (by decide +kernel) rfl (Nat.le_of_ble_eq_true rfl) ?_
  show sw_W E sw_gM m_X11_isAhead d 0 [(0, .ref 0), (1, .int x1), (2, .int x2), (3, .int x3)] [] σ (sw_pI p)
  obtain ⟨q1, hq, h⟩ := sw_bnd h
  refine B_X11_isAhead_0  (FC_X11_isIn (Nat.le_refl _) hq) (Nat.lt_of_lt_of_le (by decide) hd) (fun v s hvs => ?_)
  obtain ⟨hv1, hv2⟩ := hvs; subst hv1; subst hv2
  refine B_X11_isAhead_9  (fun hc => ?_) (fun hc => ?_)
  · rw [if_pos hc] at h
    exact SC_X11_isAhead_30 hd h
  · rw [if_neg hc] at h
    refine B_X11_isAhead_12  (fun hc => ?_) (fun hc => ?_)
    · rw [if_pos hc] at h
      exact SC_X11_isAhead_30 hd h
    · rw [if_neg hc] at h
      refine B_X11_isAhead_26  ?_
      exact SC_X11_isAhead_31 hd h
/-! StrayWoolModel.bits(I)I -/
noncomputable def S_X11_bits_4 (c4 : sw_St → Int32 → Int32 → Option (Int32 × sw_St)) (σ : sw_St) (x1 : Int32) (x2 : Int32) : Option (Int32 × sw_St) :=
  if x2 = 0 then (some (x1, σ)) else (c4 σ (x1 + 1) (x2 &&& (x2 - 1)))
theorem SC_X11_bits_4 {E : sw_E} {d : Nat} (hd : 0 ≤ d) {p : Int32 × sw_St} {c4 : sw_St → Int32 → Int32 → Option (Int32 × sw_St)} (h4 : ∀ (σ : sw_St) (x1 : Int32) (x2 : Int32), c4 σ x1 x2 = some p → sw_W E sw_gM m_X11_bits d 4 [(1, .int x1), (2, .int x2)] [] σ (sw_pI p)) {σ : sw_St} {x1 : Int32} {x2 : Int32} (h : S_X11_bits_4 c4 σ x1 x2 = some p) : sw_W E sw_gM m_X11_bits d 4 [(1, .int x1), (2, .int x2)] [] σ (sw_pI p) := by
  unfold S_X11_bits_4 at h
  refine B_X11_bits_4  (fun hc => ?_) (fun hc => ?_)
  · rw [if_pos hc] at h
    cases h
    exact B_X11_bits_20  ⟨_, rfl, rfl, rfl⟩
  · rw [if_neg hc] at h
    refine B_X11_bits_8  ?_
    exact h4 _ _ _ h
noncomputable def L_X11_bits_4 : Nat → sw_St → Int32 → Int32 → Option (Int32 × sw_St)
  | 0, _, _, _ => none
  | k + 1, σ, x1, x2 => S_X11_bits_4 (fun σ x1 x2 => L_X11_bits_4 k σ x1 x2) σ x1 x2
theorem LC_X11_bits_4 {E : sw_E} {d : Nat} (hd : 0 ≤ d) {p : Int32 × sw_St} : ∀ (k : Nat) (σ : sw_St) (x1 : Int32) (x2 : Int32), L_X11_bits_4 k σ x1 x2 = some p → sw_W E sw_gM m_X11_bits d 4 [(1, .int x1), (2, .int x2)] [] σ (sw_pI p) := by
  intro k
  induction k with
  | zero => intro σ x1 x2 h; cases h
  | succ k ih => intro σ x1 x2 h; exact SC_X11_bits_4 hd ih h
noncomputable def F_X11_bits (σ : sw_St) (x0 : Int32) : Option (Int32 × sw_St) :=
  L_X11_bits_4 sw_fuel σ 0 x0
theorem FC_X11_bits {E : sw_E} {d : Nat} (hd : 0 ≤ d) {p : Int32 × sw_St} {σ : sw_St} {x0 : Int32} (h : F_X11_bits σ x0 = some p) : sw_KI E sw_gM m_X11_bits d [.int x0] σ (fun v s => v = p.1 ∧ s = p.2) := by
  unfold F_X11_bits at h
  refine sw_K.of (by decide +kernel) rfl (Nat.le_of_ble_eq_true rfl) ?_
  show sw_W E sw_gM m_X11_bits d 0 [(0, .int x0)] [] σ (sw_pI p)
  refine B_X11_bits_0  ?_
  exact LC_X11_bits_4 hd _ _ _ _ h
/-! StrayWoolModel.openMany()I -/
noncomputable def S_X11_openMany_23 (c4 : sw_St → Int32 → Int32 → Option (Int32 × sw_St)) (σ : sw_St) (x1 : Int32) (x2 : Int32) : Option (Int32 × sw_St) :=
  c4 σ x1 (x2 + 1)
theorem SC_X11_openMany_23 {E : sw_E} {d : Nat} (hd : 1 ≤ d) {p : Int32 × sw_St} {c4 : sw_St → Int32 → Int32 → Option (Int32 × sw_St)} (h4 : ∀ (σ : sw_St) (x1 : Int32) (x2 : Int32), c4 σ x1 x2 = some p → sw_W E sw_gM m_X11_openMany d 4 [(0, .ref 0), (1, .int x1), (2, .int x2)] [] σ (sw_pI p)) {σ : sw_St} {x1 : Int32} {x2 : Int32} (h : S_X11_openMany_23 c4 σ x1 x2 = some p) : sw_W E sw_gM m_X11_openMany d 23 [(0, .ref 0), (1, .int x1), (2, .int x2)] [] σ (sw_pI p) := by
  unfold S_X11_openMany_23 at h
  refine B_X11_openMany_23  ?_
  exact h4 _ _ _ h
noncomputable def S_X11_openMany_4 (c4 : sw_St → Int32 → Int32 → Option (Int32 × sw_St)) (σ : sw_St) (x1 : Int32) (x2 : Int32) : Option (Int32 × sw_St) :=
  (F_X11_gapMany σ ).bind fun q1 => if q1.1 ≤ x2 then (some (x1, q1.2)) else ((F_X11_isOpen q1.2 x2).bind fun q2 => if q2.1 = 0 then (S_X11_openMany_23 c4 q2.2 x1 x2) else (S_X11_openMany_23 c4 q2.2 (x1 + 1) x2))
theorem SC_X11_openMany_4 {E : sw_E} {d : Nat} (hd : 1 ≤ d) {p : Int32 × sw_St} {c4 : sw_St → Int32 → Int32 → Option (Int32 × sw_St)} (h4 : ∀ (σ : sw_St) (x1 : Int32) (x2 : Int32), c4 σ x1 x2 = some p → sw_W E sw_gM m_X11_openMany d 4 [(0, .ref 0), (1, .int x1), (2, .int x2)] [] σ (sw_pI p)) {σ : sw_St} {x1 : Int32} {x2 : Int32} (h : S_X11_openMany_4 c4 σ x1 x2 = some p) : sw_W E sw_gM m_X11_openMany d 4 [(0, .ref 0), (1, .int x1), (2, .int x2)] [] σ (sw_pI p) := by
  unfold S_X11_openMany_4 at h
  obtain ⟨q1, hq, h⟩ := sw_bnd h
  refine B_X11_openMany_4  (FC_X11_gapMany (Nat.le_refl _) hq) (Nat.lt_of_lt_of_le (by decide) hd) (fun v s hvs => ?_)
  obtain ⟨hv1, hv2⟩ := hvs; subst hv1; subst hv2
  refine B_X11_openMany_9  (fun hc => ?_) (fun hc => ?_)
  · rw [if_pos hc] at h
    cases h
    exact B_X11_openMany_29  ⟨_, rfl, rfl, rfl⟩
  · rw [if_neg hc] at h
    obtain ⟨q2, hq, h⟩ := sw_bnd h
    refine B_X11_openMany_12  (FC_X11_isOpen (Nat.le_refl _) hq) (Nat.lt_of_lt_of_le (by decide) hd) (fun v s hvs => ?_)
    obtain ⟨hv1, hv2⟩ := hvs; subst hv1; subst hv2
    refine B_X11_openMany_17  (fun hc => ?_) (fun hc => ?_)
    · rw [if_pos hc] at h
      exact SC_X11_openMany_23 hd h4 h
    · rw [if_neg hc] at h
      refine B_X11_openMany_20  ?_
      exact SC_X11_openMany_23 hd h4 h
noncomputable def L_X11_openMany_4 : Nat → sw_St → Int32 → Int32 → Option (Int32 × sw_St)
  | 0, _, _, _ => none
  | k + 1, σ, x1, x2 => S_X11_openMany_4 (fun σ x1 x2 => L_X11_openMany_4 k σ x1 x2) σ x1 x2
theorem LC_X11_openMany_4 {E : sw_E} {d : Nat} (hd : 1 ≤ d) {p : Int32 × sw_St} : ∀ (k : Nat) (σ : sw_St) (x1 : Int32) (x2 : Int32), L_X11_openMany_4 k σ x1 x2 = some p → sw_W E sw_gM m_X11_openMany d 4 [(0, .ref 0), (1, .int x1), (2, .int x2)] [] σ (sw_pI p) := by
  intro k
  induction k with
  | zero => intro σ x1 x2 h; cases h
  | succ k ih => intro σ x1 x2 h; exact SC_X11_openMany_4 hd ih h
noncomputable def F_X11_openMany (σ : sw_St) : Option (Int32 × sw_St) :=
  L_X11_openMany_4 sw_fuel σ 0 0
theorem FC_X11_openMany {E : sw_E} {d : Nat} (hd : 1 ≤ d) {p : Int32 × sw_St} {σ : sw_St} (h : F_X11_openMany σ  = some p) : sw_KI E sw_gM m_X11_openMany d [.ref 0] σ (fun v s => v = p.1 ∧ s = p.2) := by
  unfold F_X11_openMany at h
  refine sw_K.of (by decide +kernel) rfl (Nat.le_of_ble_eq_true rfl) ?_
  show sw_W E sw_gM m_X11_openMany d 0 [(0, .ref 0)] [] σ (sw_pI p)
  refine B_X11_openMany_0  ?_
  exact LC_X11_openMany_4 hd _ _ _ _ h
/-! StrayWoolModel.woolAll()I -/
noncomputable def S_X11_woolAll_4 (c4 : sw_St → Int32 → Int32 → Option (Int32 × sw_St)) (σ : sw_St) (x1 : Int32) (x2 : Int32) : Option (Int32 × sw_St) :=
  (F_X11_sheepMany σ ).bind fun q1 => if q1.1 ≤ x2 then (some (x1, q1.2)) else ((F_X11_woolOf q1.2 x2).bind fun q2 => c4 q2.2 (x1 + q2.1) (x2 + 1))
theorem SC_X11_woolAll_4 {E : sw_E} {d : Nat} (hd : 1 ≤ d) {p : Int32 × sw_St} {c4 : sw_St → Int32 → Int32 → Option (Int32 × sw_St)} (h4 : ∀ (σ : sw_St) (x1 : Int32) (x2 : Int32), c4 σ x1 x2 = some p → sw_W E sw_gM m_X11_woolAll d 4 [(0, .ref 0), (1, .int x1), (2, .int x2)] [] σ (sw_pI p)) {σ : sw_St} {x1 : Int32} {x2 : Int32} (h : S_X11_woolAll_4 c4 σ x1 x2 = some p) : sw_W E sw_gM m_X11_woolAll d 4 [(0, .ref 0), (1, .int x1), (2, .int x2)] [] σ (sw_pI p) := by
  unfold S_X11_woolAll_4 at h
  obtain ⟨q1, hq, h⟩ := sw_bnd h
  refine B_X11_woolAll_4  (FC_X11_sheepMany (Nat.le_refl _) hq) (Nat.lt_of_lt_of_le (by decide) hd) (fun v s hvs => ?_)
  obtain ⟨hv1, hv2⟩ := hvs; subst hv1; subst hv2
  refine B_X11_woolAll_9  (fun hc => ?_) (fun hc => ?_)
  · rw [if_pos hc] at h
    cases h
    exact B_X11_woolAll_26  ⟨_, rfl, rfl, rfl⟩
  · rw [if_neg hc] at h
    obtain ⟨q2, hq, h⟩ := sw_bnd h
    refine B_X11_woolAll_12  (FC_X11_woolOf (Nat.le_refl _) hq) (Nat.lt_of_lt_of_le (by decide) hd) (fun v s hvs => ?_)
    obtain ⟨hv1, hv2⟩ := hvs; subst hv1; subst hv2
    refine B_X11_woolAll_18  ?_
    exact h4 _ _ _ h
noncomputable def L_X11_woolAll_4 : Nat → sw_St → Int32 → Int32 → Option (Int32 × sw_St)
  | 0, _, _, _ => none
  | k + 1, σ, x1, x2 => S_X11_woolAll_4 (fun σ x1 x2 => L_X11_woolAll_4 k σ x1 x2) σ x1 x2
theorem LC_X11_woolAll_4 {E : sw_E} {d : Nat} (hd : 1 ≤ d) {p : Int32 × sw_St} : ∀ (k : Nat) (σ : sw_St) (x1 : Int32) (x2 : Int32), L_X11_woolAll_4 k σ x1 x2 = some p → sw_W E sw_gM m_X11_woolAll d 4 [(0, .ref 0), (1, .int x1), (2, .int x2)] [] σ (sw_pI p) := by
  intro k
  induction k with
  | zero => intro σ x1 x2 h; cases h
  | succ k ih => intro σ x1 x2 h; exact SC_X11_woolAll_4 hd ih h
noncomputable def F_X11_woolAll (σ : sw_St) : Option (Int32 × sw_St) :=
  L_X11_woolAll_4 sw_fuel σ 0 0
theorem FC_X11_woolAll {E : sw_E} {d : Nat} (hd : 1 ≤ d) {p : Int32 × sw_St} {σ : sw_St} (h : F_X11_woolAll σ  = some p) : sw_KI E sw_gM m_X11_woolAll d [.ref 0] σ (fun v s => v = p.1 ∧ s = p.2) := by
  unfold F_X11_woolAll at h
  refine sw_K.of (by decide +kernel) rfl (Nat.le_of_ble_eq_true rfl) ?_
  show sw_W E sw_gM m_X11_woolAll d 0 [(0, .ref 0)] [] σ (sw_pI p)
  refine B_X11_woolAll_0  ?_
  exact LC_X11_woolAll_4 hd _ _ _ _ h
/-! StrayWoolModel.has(I)I -/
noncomputable def F_X11_has (σ : sw_St) (x1 : Int32) : Option (Int32 × sw_St) :=
  if x1 = 0 then ((F_X11_fieldMany σ ).bind fun q1 => some (q1.1, q1.2)) else if x1 = 1 then ((F_X11_gapMany σ ).bind fun q2 => some (q2.1, q2.2)) else if x1 = 2 then ((F_X11_sheepMany σ ).bind fun q3 => some (q3.1, q3.2)) else if x1 = 3 then (some (σ.1 37 0, σ)) else if x1 = 4 then ((F_X11_openMany σ ).bind fun q4 => some (q4.1, q4.2)) else if x1 = 5 then (some (σ.1 37 1, σ)) else if x1 = 6 then ((F_X11_woolAll σ ).bind fun q5 => some (q5.1, q5.2)) else if x1 = 7 then (some (σ.1 37 84, σ)) else if x1 = 8 then (some (σ.1 0 63, σ)) else if x1 = 9 then (some (σ.1 0 67, σ)) else (some ((-1), σ))
theorem FC_X11_has {E : sw_E} {d : Nat} (hd : 2 ≤ d) {p : Int32 × sw_St} {σ : sw_St} {x1 : Int32} (h : F_X11_has σ x1 = some p) : sw_KI E sw_gM m_X11_has d [.ref 0, .int x1] σ (fun v s => v = p.1 ∧ s = p.2) := by
  unfold F_X11_has at h
  refine sw_K.of (by decide +kernel) rfl (Nat.le_of_ble_eq_true rfl) ?_
  show sw_W E sw_gM m_X11_has d 0 [(0, .ref 0), (1, .int x1)] [] σ (sw_pI p)
  refine B_X11_has_0  (fun hc => ?_) (fun hc => ?_) (fun hc => ?_) (fun hc => ?_) (fun hc => ?_) (fun hc => ?_) (fun hc => ?_) (fun hc => ?_) (fun hc => ?_) (fun hc => ?_) (fun n0 n1 n2 n3 n4 n5 n6 n7 n8 n9 => ?_)
  · rw [if_pos hc] at h
    obtain ⟨q1, hq, h⟩ := sw_bnd h
    refine B_X11_has_56  (FC_X11_fieldMany (Nat.le_refl _) hq) (Nat.lt_of_lt_of_le (by decide) hd) (fun v s hvs => ?_)
    obtain ⟨hv1, hv2⟩ := hvs; subst hv1; subst hv2
    cases h
    exact B_X11_has_60  ⟨_, rfl, rfl, rfl⟩
  · rw [if_neg (fun z => absurd (hc.symm.trans z) (by decide)), if_pos hc] at h
    obtain ⟨q2, hq, h⟩ := sw_bnd h
    refine B_X11_has_61  (FC_X11_gapMany (Nat.le_refl _) hq) (Nat.lt_of_lt_of_le (by decide) hd) (fun v s hvs => ?_)
    obtain ⟨hv1, hv2⟩ := hvs; subst hv1; subst hv2
    cases h
    exact B_X11_has_65  ⟨_, rfl, rfl, rfl⟩
  · rw [if_neg (fun z => absurd (hc.symm.trans z) (by decide)), if_neg (fun z => absurd (hc.symm.trans z) (by decide)), if_pos hc] at h
    obtain ⟨q3, hq, h⟩ := sw_bnd h
    refine B_X11_has_66  (FC_X11_sheepMany (Nat.le_refl _) hq) (Nat.lt_of_lt_of_le (by decide) hd) (fun v s hvs => ?_)
    obtain ⟨hv1, hv2⟩ := hvs; subst hv1; subst hv2
    cases h
    exact B_X11_has_70  ⟨_, rfl, rfl, rfl⟩
  · rw [if_neg (fun z => absurd (hc.symm.trans z) (by decide)), if_neg (fun z => absurd (hc.symm.trans z) (by decide)), if_neg (fun z => absurd (hc.symm.trans z) (by decide)), if_pos hc] at h
    cases h
    exact B_X11_has_71  ⟨_, rfl, rfl, rfl⟩
  · rw [if_neg (fun z => absurd (hc.symm.trans z) (by decide)), if_neg (fun z => absurd (hc.symm.trans z) (by decide)), if_neg (fun z => absurd (hc.symm.trans z) (by decide)), if_neg (fun z => absurd (hc.symm.trans z) (by decide)), if_pos hc] at h
    obtain ⟨q4, hq, h⟩ := sw_bnd h
    refine B_X11_has_78  (FC_X11_openMany (Nat.le_refl _) hq) (Nat.lt_of_lt_of_le (by decide) hd) (fun v s hvs => ?_)
    obtain ⟨hv1, hv2⟩ := hvs; subst hv1; subst hv2
    cases h
    exact B_X11_has_82  ⟨_, rfl, rfl, rfl⟩
  · rw [if_neg (fun z => absurd (hc.symm.trans z) (by decide)), if_neg (fun z => absurd (hc.symm.trans z) (by decide)), if_neg (fun z => absurd (hc.symm.trans z) (by decide)), if_neg (fun z => absurd (hc.symm.trans z) (by decide)), if_neg (fun z => absurd (hc.symm.trans z) (by decide)), if_pos hc] at h
    cases h
    exact B_X11_has_83  ⟨_, rfl, rfl, rfl⟩
  · rw [if_neg (fun z => absurd (hc.symm.trans z) (by decide)), if_neg (fun z => absurd (hc.symm.trans z) (by decide)), if_neg (fun z => absurd (hc.symm.trans z) (by decide)), if_neg (fun z => absurd (hc.symm.trans z) (by decide)), if_neg (fun z => absurd (hc.symm.trans z) (by decide)), if_neg (fun z => absurd (hc.symm.trans z) (by decide)), if_pos hc] at h
    obtain ⟨q5, hq, h⟩ := sw_bnd h
    refine B_X11_has_90  (FC_X11_woolAll (Nat.le_refl _) hq) (Nat.lt_of_lt_of_le (by decide) hd) (fun v s hvs => ?_)
    obtain ⟨hv1, hv2⟩ := hvs; subst hv1; subst hv2
    cases h
    exact B_X11_has_94  ⟨_, rfl, rfl, rfl⟩
  · rw [if_neg (fun z => absurd (hc.symm.trans z) (by decide)), if_neg (fun z => absurd (hc.symm.trans z) (by decide)), if_neg (fun z => absurd (hc.symm.trans z) (by decide)), if_neg (fun z => absurd (hc.symm.trans z) (by decide)), if_neg (fun z => absurd (hc.symm.trans z) (by decide)), if_neg (fun z => absurd (hc.symm.trans z) (by decide)), if_neg (fun z => absurd (hc.symm.trans z) (by decide)), if_pos hc] at h
    cases h
    exact B_X11_has_95  ⟨_, rfl, rfl, rfl⟩
  · rw [if_neg (fun z => absurd (hc.symm.trans z) (by decide)), if_neg (fun z => absurd (hc.symm.trans z) (by decide)), if_neg (fun z => absurd (hc.symm.trans z) (by decide)), if_neg (fun z => absurd (hc.symm.trans z) (by decide)), if_neg (fun z => absurd (hc.symm.trans z) (by decide)), if_neg (fun z => absurd (hc.symm.trans z) (by decide)), if_neg (fun z => absurd (hc.symm.trans z) (by decide)), if_neg (fun z => absurd (hc.symm.trans z) (by decide)), if_pos hc] at h
    cases h
    exact B_X11_has_103  ⟨_, rfl, rfl, rfl⟩
  · rw [if_neg (fun z => absurd (hc.symm.trans z) (by decide)), if_neg (fun z => absurd (hc.symm.trans z) (by decide)), if_neg (fun z => absurd (hc.symm.trans z) (by decide)), if_neg (fun z => absurd (hc.symm.trans z) (by decide)), if_neg (fun z => absurd (hc.symm.trans z) (by decide)), if_neg (fun z => absurd (hc.symm.trans z) (by decide)), if_neg (fun z => absurd (hc.symm.trans z) (by decide)), if_neg (fun z => absurd (hc.symm.trans z) (by decide)), if_neg (fun z => absurd (hc.symm.trans z) (by decide)), if_pos hc] at h
    cases h
    exact B_X11_has_108  ⟨_, rfl, rfl, rfl⟩
  · rw [if_neg n0, if_neg n1, if_neg n2, if_neg n3, if_neg n4, if_neg n5, if_neg n6, if_neg n7, if_neg n8, if_neg n9] at h
    cases h
    exact B_X11_has_113  ⟨_, rfl, rfl, rfl⟩
/-! StrayWoolModel.letter(III)I -/
noncomputable def S_X11_letter_42 (σ : sw_St) : Option (Int32 × sw_St) :=
  some ((-1), σ)
theorem SC_X11_letter_42 {E : sw_E} {d : Nat} (hd : 1 ≤ d) {p : Int32 × sw_St} {σ : sw_St} (h : S_X11_letter_42 σ  = some p) : sw_W E sw_gM m_X11_letter d 42 [] [] σ (sw_pI p) := by
  unfold S_X11_letter_42 at h
  cases h
  exact B_X11_letter_42  ⟨_, rfl, rfl, rfl⟩
noncomputable def S_X11_letter_102 (c102 : sw_St → Int32 → Int64 → Int32 → Option (Int32 × sw_St)) (σ : sw_St) (x3 : Int32) (y4 : Int64) (x7 : Int32) : Option (Int32 × sw_St) :=
  if x7 ≤ x3 then (some ((y4 - y4 / 27 * 27).toInt32, σ)) else (c102 σ x3 (y4 / 27) (x7 + (-1)))
theorem SC_X11_letter_102 {E : sw_E} {d : Nat} (hd : 1 ≤ d) {p : Int32 × sw_St} {c102 : sw_St → Int32 → Int64 → Int32 → Option (Int32 × sw_St)} (h102 : ∀ (σ : sw_St) (x3 : Int32) (y4 : Int64) (x7 : Int32), c102 σ x3 y4 x7 = some p → sw_W E sw_gM m_X11_letter d 102 [(3, .int x3), (4, .long y4), (7, .int x7)] [] σ (sw_pI p)) {σ : sw_St} {x3 : Int32} {y4 : Int64} {x7 : Int32} (h : S_X11_letter_102 c102 σ x3 y4 x7 = some p) : sw_W E sw_gM m_X11_letter d 102 [(3, .int x3), (4, .long y4), (7, .int x7)] [] σ (sw_pI p) := by
  unfold S_X11_letter_102 at h
  refine B_X11_letter_102  (fun hc => ?_) (fun hc => ?_)
  · rw [if_pos hc] at h
    cases h
    exact B_X11_letter_122  ⟨_, rfl, rfl, rfl⟩
  · rw [if_neg hc] at h
    refine B_X11_letter_108  ?_
    exact h102 _ _ _ _ h
noncomputable def L_X11_letter_102 : Nat → sw_St → Int32 → Int64 → Int32 → Option (Int32 × sw_St)
  | 0, _, _, _, _ => none
  | k + 1, σ, x3, y4, x7 => S_X11_letter_102 (fun σ x3 y4 x7 => L_X11_letter_102 k σ x3 y4 x7) σ x3 y4 x7
theorem LC_X11_letter_102 {E : sw_E} {d : Nat} (hd : 1 ≤ d) {p : Int32 × sw_St} : ∀ (k : Nat) (σ : sw_St) (x3 : Int32) (y4 : Int64) (x7 : Int32), L_X11_letter_102 k σ x3 y4 x7 = some p → sw_W E sw_gM m_X11_letter d 102 [(3, .int x3), (4, .long y4), (7, .int x7)] [] σ (sw_pI p) := by
  intro k
  induction k with
  | zero => intro σ x3 y4 x7 h; cases h
  | succ k ih => intro σ x3 y4 x7 h; exact SC_X11_letter_102 hd ih h
noncomputable def S_X11_letter_67 (c67 : sw_St → Int32 → Int64 → Int32 → Int64 → Option (Int32 × sw_St)) (σ : sw_St) (x3 : Int32) (y4 : Int64) (x6 : Int32) (y7 : Int64) : Option (Int32 × sw_St) :=
  if (lg_cmp y7 0) ≤ 0 then (if x3 < x6 then (L_X11_letter_102 sw_fuel σ x3 y4 (x6 - 1)) else (some (0, σ))) else (c67 σ x3 y4 (x6 + 1) (y7 / 27))
theorem SC_X11_letter_67 {E : sw_E} {d : Nat} (hd : 1 ≤ d) {p : Int32 × sw_St} {c67 : sw_St → Int32 → Int64 → Int32 → Int64 → Option (Int32 × sw_St)} (h67 : ∀ (σ : sw_St) (x3 : Int32) (y4 : Int64) (x6 : Int32) (y7 : Int64), c67 σ x3 y4 x6 y7 = some p → sw_W E sw_gM m_X11_letter d 67 [(3, .int x3), (4, .long y4), (6, .int x6), (7, .long y7)] [] σ (sw_pI p)) {σ : sw_St} {x3 : Int32} {y4 : Int64} {x6 : Int32} {y7 : Int64} (h : S_X11_letter_67 c67 σ x3 y4 x6 y7 = some p) : sw_W E sw_gM m_X11_letter d 67 [(3, .int x3), (4, .long y4), (6, .int x6), (7, .long y7)] [] σ (sw_pI p) := by
  unfold S_X11_letter_67 at h
  refine B_X11_letter_67  (fun hc => ?_) (fun hc => ?_)
  · rw [if_pos hc] at h
    refine B_X11_letter_88  (fun hc => ?_) (fun hc => ?_)
    · rw [if_pos hc] at h
      refine B_X11_letter_96  ?_
      exact LC_X11_letter_102 hd _ _ _ _ _ h
    · rw [if_neg hc] at h
      cases h
      exact B_X11_letter_94  ⟨_, rfl, rfl, rfl⟩
  · rw [if_neg hc] at h
    refine B_X11_letter_74  ?_
    exact h67 _ _ _ _ _ h
noncomputable def L_X11_letter_67 : Nat → sw_St → Int32 → Int64 → Int32 → Int64 → Option (Int32 × sw_St)
  | 0, _, _, _, _, _ => none
  | k + 1, σ, x3, y4, x6, y7 => S_X11_letter_67 (fun σ x3 y4 x6 y7 => L_X11_letter_67 k σ x3 y4 x6 y7) σ x3 y4 x6 y7
theorem LC_X11_letter_67 {E : sw_E} {d : Nat} (hd : 1 ≤ d) {p : Int32 × sw_St} : ∀ (k : Nat) (σ : sw_St) (x3 : Int32) (y4 : Int64) (x6 : Int32) (y7 : Int64), L_X11_letter_67 k σ x3 y4 x6 y7 = some p → sw_W E sw_gM m_X11_letter d 67 [(3, .int x3), (4, .long y4), (6, .int x6), (7, .long y7)] [] σ (sw_pI p) := by
  intro k
  induction k with
  | zero => intro σ x3 y4 x6 y7 h; cases h
  | succ k ih => intro σ x3 y4 x6 y7 h; exact SC_X11_letter_67 hd ih h
noncomputable def F_X11_letter (σ : sw_St) (x1 : Int32) (x2 : Int32) (x3 : Int32) : Option (Int32 × sw_St) :=
  (F_X11_isIn σ x1.toInt64 0 1).bind fun q1 => if q1.1 = 0 then (S_X11_letter_42 q1.2 ) else (if sw_inb (4 + x1) 8 = true then ((F_X11_isIn q1.2 x2.toInt64 0 (((q1.2.1 28 ((4 + x1).toNatClampNeg)) - 1).toInt64)).bind fun q3 => if q3.1 = 0 then (S_X11_letter_42 q3.2 ) else ((F_X11_isIn q3.2 x3.toInt64 0 5).bind fun q4 => if q4.1 = 0 then (S_X11_letter_42 q4.2 ) else (if sw_inb ((16 + (8 * x1)) + x2) 32 = true then (L_X11_letter_67 sw_fuel q4.2 x3 (q4.2.2.1 29 (((16 + (8 * x1)) + x2).toNatClampNeg)) 0 (q4.2.2.1 29 (((16 + (8 * x1)) + x2).toNatClampNeg))) else none))) else none)
theorem FC_X11_letter {E : sw_E} {d : Nat} (hd : 1 ≤ d) {p : Int32 × sw_St} {σ : sw_St} {x1 : Int32} {x2 : Int32} {x3 : Int32} (h : F_X11_letter σ x1 x2 x3 = some p) : sw_KI E sw_gM m_X11_letter d [.ref 0, .int x1, .int x2, .int x3] σ (fun v s => v = p.1 ∧ s = p.2) := by
  unfold F_X11_letter at h
  refine sw_K.of (by decide +kernel) rfl (Nat.le_of_ble_eq_true rfl) ?_
  show sw_W E sw_gM m_X11_letter d 0 [(0, .ref 0), (1, .int x1), (2, .int x2), (3, .int x3)] [] σ (sw_pI p)
  obtain ⟨q1, hq, h⟩ := sw_bnd h
  refine B_X11_letter_0  (FC_X11_isIn (Nat.le_refl _) hq) (Nat.lt_of_lt_of_le (by decide) hd) (fun v s hvs => ?_)
  obtain ⟨hv1, hv2⟩ := hvs; subst hv1; subst hv2
  refine B_X11_letter_7  (fun hc => ?_) (fun hc => ?_)
  · rw [if_pos hc] at h
    exact SC_X11_letter_42 hd h
  · rw [if_neg hc] at h
    obtain ⟨o2, h⟩ := sw_ifs h
    obtain ⟨q3, hq, h⟩ := sw_bnd h
    refine B_X11_letter_10 (sw_inb_sp o2) (FC_X11_isIn (Nat.le_refl _) hq) (Nat.lt_of_lt_of_le (by decide) hd) (fun v s hvs => ?_)
    obtain ⟨hv1, hv2⟩ := hvs; subst hv1; subst hv2
    refine B_X11_letter_27  (fun hc => ?_) (fun hc => ?_)
    · rw [if_pos hc] at h
      exact SC_X11_letter_42 hd h
    · rw [if_neg hc] at h
      obtain ⟨q4, hq, h⟩ := sw_bnd h
      refine B_X11_letter_30  (FC_X11_isIn (Nat.le_refl _) hq) (Nat.lt_of_lt_of_le (by decide) hd) (fun v s hvs => ?_)
      obtain ⟨hv1, hv2⟩ := hvs; subst hv1; subst hv2
      refine B_X11_letter_39  (fun hc => ?_) (fun hc => ?_)
      · rw [if_neg hc] at h
        obtain ⟨o5, h⟩ := sw_ifs h
        refine B_X11_letter_44 (sw_inb_sp o5) ?_
        exact LC_X11_letter_67 hd _ _ _ _ _ _ h
      · rw [if_pos hc] at h
        exact SC_X11_letter_42 hd h
/-! StrayWoolModel.lure(I)I -/
noncomputable def S_X11_lure_22 (σ : sw_St) (sx0 : Int32) : Option (Int32 × sw_St) :=
  some (sx0, σ)
theorem SC_X11_lure_22 {E : sw_E} {d : Nat} (hd : 2 ≤ d) {p : Int32 × sw_St} {σ : sw_St} {sx0 : Int32} (h : S_X11_lure_22 σ sx0 = some p) : sw_W E sw_gM m_X11_lure d 22 [] [.int sx0] σ (sw_pI p) := by
  unfold S_X11_lure_22 at h
  cases h
  exact B_X11_lure_22  ⟨_, rfl, rfl, rfl⟩
noncomputable def F_X11_lure (σ : sw_St) (x1 : Int32) : Option (Int32 × sw_St) :=
  (F_X11_isField σ x1.toInt64).bind fun q1 => if q1.1 = 0 then (S_X11_lure_22 q1.2 (-1)) else (if sw_inb (8 + x1) 16 = true then (S_X11_lure_22 q1.2 (q1.2.1 30 ((8 + x1).toNatClampNeg))) else none)
theorem FC_X11_lure {E : sw_E} {d : Nat} (hd : 2 ≤ d) {p : Int32 × sw_St} {σ : sw_St} {x1 : Int32} (h : F_X11_lure σ x1 = some p) : sw_KI E sw_gM m_X11_lure d [.ref 0, .int x1] σ (fun v s => v = p.1 ∧ s = p.2) := by
  unfold F_X11_lure at h
  refine sw_K.of (by decide +kernel) rfl (Nat.le_of_ble_eq_true rfl) ?_
  show sw_W E sw_gM m_X11_lure d 0 [(0, .ref 0), (1, .int x1)] [] σ (sw_pI p)
  obtain ⟨q1, hq, h⟩ := sw_bnd h
  refine B_X11_lure_0  (FC_X11_isField (Nat.le_refl _) hq) (Nat.lt_of_lt_of_le (by decide) hd) (fun v s hvs => ?_)
  obtain ⟨hv1, hv2⟩ := hvs; subst hv1; subst hv2
  refine B_X11_lure_6  (fun hc => ?_) (fun hc => ?_)
  · rw [if_pos hc] at h
    refine B_X11_lure_21  ?_
    exact SC_X11_lure_22 hd h
  · rw [if_neg hc] at h
    obtain ⟨o2, h⟩ := sw_ifs h
    refine B_X11_lure_9 (sw_inb_sp o2) ?_
    exact SC_X11_lure_22 hd h
/-! StrayWoolModel.gap(II)I -/
noncomputable def S_X11_gap_21 (σ : sw_St) : Option (Int32 × sw_St) :=
  some ((-1), σ)
theorem SC_X11_gap_21 {E : sw_E} {d : Nat} (hd : 2 ≤ d) {p : Int32 × sw_St} {σ : sw_St} (h : S_X11_gap_21 σ  = some p) : sw_W E sw_gM m_X11_gap d 21 [] [] σ (sw_pI p) := by
  unfold S_X11_gap_21 at h
  cases h
  exact B_X11_gap_21  ⟨_, rfl, rfl, rfl⟩
noncomputable def S_X11_gap_52 (σ : sw_St) (sx0 : Int32) : Option (Int32 × sw_St) :=
  some (sx0, σ)
theorem SC_X11_gap_52 {E : sw_E} {d : Nat} (hd : 2 ≤ d) {p : Int32 × sw_St} {σ : sw_St} {sx0 : Int32} (h : S_X11_gap_52 σ sx0 = some p) : sw_W E sw_gM m_X11_gap d 52 [] [.int sx0] σ (sw_pI p) := by
  unfold S_X11_gap_52 at h
  cases h
  exact B_X11_gap_52  ⟨_, rfl, rfl, rfl⟩
noncomputable def F_X11_gap (σ : sw_St) (x1 : Int32) (x2 : Int32) : Option (Int32 × sw_St) :=
  (F_X11_isGap σ x1.toInt64).bind fun q1 => if q1.1 = 0 then (S_X11_gap_21 q1.2 ) else ((F_X11_isIn q1.2 x2.toInt64 0 3).bind fun q2 => if q2.1 = 0 then (S_X11_gap_21 q2.2 ) else (if x2 = 3 then (if sw_inb (2 + x1) 245 = true then (S_X11_gap_52 q2.2 (q2.2.1 37 ((2 + x1).toNatClampNeg))) else none) else (if sw_inb ((30 + (3 * x1)) + x2) 60 = true then (S_X11_gap_52 q2.2 (q2.2.1 31 (((30 + (3 * x1)) + x2).toNatClampNeg))) else none)))
theorem FC_X11_gap {E : sw_E} {d : Nat} (hd : 2 ≤ d) {p : Int32 × sw_St} {σ : sw_St} {x1 : Int32} {x2 : Int32} (h : F_X11_gap σ x1 x2 = some p) : sw_KI E sw_gM m_X11_gap d [.ref 0, .int x1, .int x2] σ (fun v s => v = p.1 ∧ s = p.2) := by
  unfold F_X11_gap at h
  refine sw_K.of (by decide +kernel) rfl (Nat.le_of_ble_eq_true rfl) ?_
  show sw_W E sw_gM m_X11_gap d 0 [(0, .ref 0), (1, .int x1), (2, .int x2)] [] σ (sw_pI p)
  obtain ⟨q1, hq, h⟩ := sw_bnd h
  refine B_X11_gap_0  (FC_X11_isGap (Nat.le_refl _) hq) (Nat.lt_of_lt_of_le (by decide) hd) (fun v s hvs => ?_)
  obtain ⟨hv1, hv2⟩ := hvs; subst hv1; subst hv2
  refine B_X11_gap_6  (fun hc => ?_) (fun hc => ?_)
  · rw [if_pos hc] at h
    exact SC_X11_gap_21 hd h
  · rw [if_neg hc] at h
    obtain ⟨q2, hq, h⟩ := sw_bnd h
    refine B_X11_gap_9  (FC_X11_isIn (Nat.le_refl _) hq) (Nat.lt_of_lt_of_le (by decide) hd) (fun v s hvs => ?_)
    obtain ⟨hv1, hv2⟩ := hvs; subst hv1; subst hv2
    refine B_X11_gap_18  (fun hc => ?_) (fun hc => ?_)
    · rw [if_neg hc] at h
      refine B_X11_gap_23  (fun hc => ?_) (fun hc => ?_)
      · rw [if_neg hc] at h
        obtain ⟨o3, h⟩ := sw_ifs h
        refine B_X11_gap_39 (sw_inb_sp o3) ?_
        exact SC_X11_gap_52 hd h
      · rw [if_pos hc] at h
        obtain ⟨o4, h⟩ := sw_ifs h
        refine B_X11_gap_28 (sw_inb_sp o4) ?_
        exact SC_X11_gap_52 hd h
    · rw [if_pos hc] at h
      exact SC_X11_gap_21 hd h
/-! StrayWoolModel.sheep(II)I -/
noncomputable def F_X11_sheep (σ : sw_St) (x1 : Int32) (x2 : Int32) : Option (Int32 × sw_St) :=
  (F_X11_isSheep σ x1).bind fun q1 => if q1.1 = 0 then (some ((-1), q1.2)) else (if x2 = 0 then ((F_X11_fieldOf q1.2 x1).bind fun q2 => some (q2.1, q2.2)) else if x2 = 1 then ((F_X11_curiousOf q1.2 x1).bind fun q3 => some (q3.1, q3.2)) else if x2 = 2 then ((F_X11_woolOf q1.2 x1).bind fun q4 => some (q4.1, q4.2)) else if x2 = 3 then ((F_X11_crimpOf q1.2 x1).bind fun q5 => some (q5.1, q5.2)) else if x2 = 4 then ((F_X11_ledOf q1.2 x1).bind fun q6 => some (q6.1, q6.2)) else if x2 = 5 then ((F_X11_homeOf q1.2 x1).bind fun q7 => some (q7.1, q7.2)) else (some ((-1), q1.2)))
theorem FC_X11_sheep {E : sw_E} {d : Nat} (hd : 2 ≤ d) {p : Int32 × sw_St} {σ : sw_St} {x1 : Int32} {x2 : Int32} (h : F_X11_sheep σ x1 x2 = some p) : sw_KI E sw_gM m_X11_sheep d [.ref 0, .int x1, .int x2] σ (fun v s => v = p.1 ∧ s = p.2) := by
  unfold F_X11_sheep at h
  refine sw_K.of (by decide +kernel) rfl (Nat.le_of_ble_eq_true rfl) ?_
  show sw_W E sw_gM m_X11_sheep d 0 [(0, .ref 0), (1, .int x1), (2, .int x2)] [] σ (sw_pI p)
  obtain ⟨q1, hq, h⟩ := sw_bnd h
  refine B_X11_sheep_0  (FC_X11_isSheep (Nat.le_refl _) hq) (Nat.lt_of_lt_of_le (by decide) hd) (fun v s hvs => ?_)
  obtain ⟨hv1, hv2⟩ := hvs; subst hv1; subst hv2
  refine B_X11_sheep_5  (fun hc => ?_) (fun hc => ?_)
  · rw [if_neg hc] at h
    refine B_X11_sheep_10  (fun hc => ?_) (fun hc => ?_) (fun hc => ?_) (fun hc => ?_) (fun hc => ?_) (fun hc => ?_) (fun n0 n1 n2 n3 n4 n5 => ?_)
    · rw [if_pos hc] at h
      obtain ⟨q2, hq, h⟩ := sw_bnd h
      refine B_X11_sheep_48  (FC_X11_fieldOf (Nat.le_refl _) hq) (Nat.lt_of_lt_of_le (by decide) hd) (fun v s hvs => ?_)
      obtain ⟨hv1, hv2⟩ := hvs; subst hv1; subst hv2
      cases h
      exact B_X11_sheep_53  ⟨_, rfl, rfl, rfl⟩
    · rw [if_neg (fun z => absurd (hc.symm.trans z) (by decide)), if_pos hc] at h
      obtain ⟨q3, hq, h⟩ := sw_bnd h
      refine B_X11_sheep_54  (FC_X11_curiousOf (Nat.le_refl _) hq) (Nat.lt_of_lt_of_le (by decide) hd) (fun v s hvs => ?_)
      obtain ⟨hv1, hv2⟩ := hvs; subst hv1; subst hv2
      cases h
      exact B_X11_sheep_59  ⟨_, rfl, rfl, rfl⟩
    · rw [if_neg (fun z => absurd (hc.symm.trans z) (by decide)), if_neg (fun z => absurd (hc.symm.trans z) (by decide)), if_pos hc] at h
      obtain ⟨q4, hq, h⟩ := sw_bnd h
      refine B_X11_sheep_60  (FC_X11_woolOf (Nat.le_refl _) hq) (Nat.lt_of_lt_of_le (by decide) hd) (fun v s hvs => ?_)
      obtain ⟨hv1, hv2⟩ := hvs; subst hv1; subst hv2
      cases h
      exact B_X11_sheep_65  ⟨_, rfl, rfl, rfl⟩
    · rw [if_neg (fun z => absurd (hc.symm.trans z) (by decide)), if_neg (fun z => absurd (hc.symm.trans z) (by decide)), if_neg (fun z => absurd (hc.symm.trans z) (by decide)), if_pos hc] at h
      obtain ⟨q5, hq, h⟩ := sw_bnd h
      refine B_X11_sheep_66  (FC_X11_crimpOf (Nat.le_refl _) hq) (Nat.lt_of_lt_of_le (by decide) hd) (fun v s hvs => ?_)
      obtain ⟨hv1, hv2⟩ := hvs; subst hv1; subst hv2
      cases h
      exact B_X11_sheep_71  ⟨_, rfl, rfl, rfl⟩
    · rw [if_neg (fun z => absurd (hc.symm.trans z) (by decide)), if_neg (fun z => absurd (hc.symm.trans z) (by decide)), if_neg (fun z => absurd (hc.symm.trans z) (by decide)), if_neg (fun z => absurd (hc.symm.trans z) (by decide)), if_pos hc] at h
      obtain ⟨q6, hq, h⟩ := sw_bnd h
      refine B_X11_sheep_72  (FC_X11_ledOf (Nat.le_refl _) hq) (Nat.lt_of_lt_of_le (by decide) hd) (fun v s hvs => ?_)
      obtain ⟨hv1, hv2⟩ := hvs; subst hv1; subst hv2
      cases h
      exact B_X11_sheep_77  ⟨_, rfl, rfl, rfl⟩
    · rw [if_neg (fun z => absurd (hc.symm.trans z) (by decide)), if_neg (fun z => absurd (hc.symm.trans z) (by decide)), if_neg (fun z => absurd (hc.symm.trans z) (by decide)), if_neg (fun z => absurd (hc.symm.trans z) (by decide)), if_neg (fun z => absurd (hc.symm.trans z) (by decide)), if_pos hc] at h
      obtain ⟨q7, hq, h⟩ := sw_bnd h
      refine B_X11_sheep_78  (FC_X11_homeOf (Nat.le_refl _) hq) (Nat.lt_of_lt_of_le (by decide) hd) (fun v s hvs => ?_)
      obtain ⟨hv1, hv2⟩ := hvs; subst hv1; subst hv2
      cases h
      exact B_X11_sheep_83  ⟨_, rfl, rfl, rfl⟩
    · rw [if_neg n0, if_neg n1, if_neg n2, if_neg n3, if_neg n4, if_neg n5] at h
      cases h
      exact B_X11_sheep_84  ⟨_, rfl, rfl, rfl⟩
  · rw [if_pos hc] at h
    cases h
    exact B_X11_sheep_8  ⟨_, rfl, rfl, rfl⟩
/-! StrayWoolModel.seen(II)I -/
noncomputable def S_X11_seen_27 (σ : sw_St) (sx0 : Int32) : Option (Int32 × sw_St) :=
  some (sx0, σ)
theorem SC_X11_seen_27 {E : sw_E} {d : Nat} (hd : 2 ≤ d) {p : Int32 × sw_St} {σ : sw_St} {sx0 : Int32} (h : S_X11_seen_27 σ sx0 = some p) : sw_W E sw_gM m_X11_seen d 27 [] [.int sx0] σ (sw_pI p) := by
  unfold S_X11_seen_27 at h
  cases h
  exact B_X11_seen_27  ⟨_, rfl, rfl, rfl⟩
noncomputable def S_X11_seen_26 (σ : sw_St) : Option (Int32 × sw_St) :=
  S_X11_seen_27 σ (-1)
theorem SC_X11_seen_26 {E : sw_E} {d : Nat} (hd : 2 ≤ d) {p : Int32 × sw_St} {σ : sw_St} (h : S_X11_seen_26 σ  = some p) : sw_W E sw_gM m_X11_seen d 26 [] [] σ (sw_pI p) := by
  unfold S_X11_seen_26 at h
  refine B_X11_seen_26  ?_
  exact SC_X11_seen_27 hd h
noncomputable def F_X11_seen (σ : sw_St) (x1 : Int32) (x2 : Int32) : Option (Int32 × sw_St) :=
  (F_X11_isSheep σ x1).bind fun q1 => if q1.1 = 0 then (S_X11_seen_26 q1.2 ) else ((F_X11_isField q1.2 x2.toInt64).bind fun q2 => if q2.1 = 0 then (S_X11_seen_26 q2.2 ) else ((F_X11_seenOf q2.2 x1 x2).bind fun q3 => S_X11_seen_27 q3.2 q3.1))
theorem FC_X11_seen {E : sw_E} {d : Nat} (hd : 2 ≤ d) {p : Int32 × sw_St} {σ : sw_St} {x1 : Int32} {x2 : Int32} (h : F_X11_seen σ x1 x2 = some p) : sw_KI E sw_gM m_X11_seen d [.ref 0, .int x1, .int x2] σ (fun v s => v = p.1 ∧ s = p.2) := by
  unfold F_X11_seen at h
  refine sw_K.of (by decide +kernel) rfl (Nat.le_of_ble_eq_true rfl) ?_
  show sw_W E sw_gM m_X11_seen d 0 [(0, .ref 0), (1, .int x1), (2, .int x2)] [] σ (sw_pI p)
  obtain ⟨q1, hq, h⟩ := sw_bnd h
  refine B_X11_seen_0  (FC_X11_isSheep (Nat.le_refl _) hq) (Nat.lt_of_lt_of_le (by decide) hd) (fun v s hvs => ?_)
  obtain ⟨hv1, hv2⟩ := hvs; subst hv1; subst hv2
  refine B_X11_seen_5  (fun hc => ?_) (fun hc => ?_)
  · rw [if_pos hc] at h
    exact SC_X11_seen_26 hd h
  · rw [if_neg hc] at h
    obtain ⟨q2, hq, h⟩ := sw_bnd h
    refine B_X11_seen_8  (FC_X11_isField (Nat.le_refl _) hq) (Nat.lt_of_lt_of_le (by decide) hd) (fun v s hvs => ?_)
    obtain ⟨hv1, hv2⟩ := hvs; subst hv1; subst hv2
    refine B_X11_seen_14  (fun hc => ?_) (fun hc => ?_)
    · rw [if_pos hc] at h
      exact SC_X11_seen_26 hd h
    · rw [if_neg hc] at h
      obtain ⟨q3, hq, h⟩ := sw_bnd h
      refine B_X11_seen_17  (FC_X11_seenOf (Nat.le_refl _) hq) (Nat.lt_of_lt_of_le (by decide) hd) (fun v s hvs => ?_)
      obtain ⟨hv1, hv2⟩ := hvs; subst hv1; subst hv2
      refine B_X11_seen_23  ?_
      exact SC_X11_seen_27 hd h
/-! StrayWoolModel.kept(II)I -/
noncomputable def S_X11_kept_48 (σ : sw_St) (sx0 : Int32) : Option (Int32 × sw_St) :=
  some (sx0, σ)
theorem SC_X11_kept_48 {E : sw_E} {d : Nat} (hd : 1 ≤ d) {p : Int32 × sw_St} {σ : sw_St} {sx0 : Int32} (h : S_X11_kept_48 σ sx0 = some p) : sw_W E sw_gM m_X11_kept d 48 [] [.int sx0] σ (sw_pI p) := by
  unfold S_X11_kept_48 at h
  cases h
  exact B_X11_kept_48  ⟨_, rfl, rfl, rfl⟩
noncomputable def S_X11_kept_47 (σ : sw_St) : Option (Int32 × sw_St) :=
  S_X11_kept_48 σ (-1)
theorem SC_X11_kept_47 {E : sw_E} {d : Nat} (hd : 1 ≤ d) {p : Int32 × sw_St} {σ : sw_St} (h : S_X11_kept_47 σ  = some p) : sw_W E sw_gM m_X11_kept d 47 [] [] σ (sw_pI p) := by
  unfold S_X11_kept_47 at h
  refine B_X11_kept_47  ?_
  exact SC_X11_kept_48 hd h
noncomputable def F_X11_kept (σ : sw_St) (x1 : Int32) (x2 : Int32) : Option (Int32 × sw_St) :=
  (F_X11_isIn σ x1.toInt64 0 (((σ.1 37 84) - 1).toInt64)).bind fun q1 => if q1.1 = 0 then (S_X11_kept_47 q1.2 ) else ((F_X11_isIn q1.2 x2.toInt64 0 3).bind fun q2 => if q2.1 = 0 then (S_X11_kept_47 q2.2 ) else (if sw_inb ((85 + (4 * x1)) + x2) 245 = true then (S_X11_kept_48 q2.2 (q2.2.1 37 (((85 + (4 * x1)) + x2).toNatClampNeg))) else none))
theorem FC_X11_kept {E : sw_E} {d : Nat} (hd : 1 ≤ d) {p : Int32 × sw_St} {σ : sw_St} {x1 : Int32} {x2 : Int32} (h : F_X11_kept σ x1 x2 = some p) : sw_KI E sw_gM m_X11_kept d [.ref 0, .int x1, .int x2] σ (fun v s => v = p.1 ∧ s = p.2) := by
  unfold F_X11_kept at h
  refine sw_K.of (by decide +kernel) rfl (Nat.le_of_ble_eq_true rfl) ?_
  show sw_W E sw_gM m_X11_kept d 0 [(0, .ref 0), (1, .int x1), (2, .int x2)] [] σ (sw_pI p)
  obtain ⟨q1, hq, h⟩ := sw_bnd h
  refine B_X11_kept_0  (FC_X11_isIn (Nat.le_refl _) hq) (Nat.lt_of_lt_of_le (by decide) hd) (fun v s hvs => ?_)
  obtain ⟨hv1, hv2⟩ := hvs; subst hv1; subst hv2
  refine B_X11_kept_16  (fun hc => ?_) (fun hc => ?_)
  · rw [if_pos hc] at h
    exact SC_X11_kept_47 hd h
  · rw [if_neg hc] at h
    obtain ⟨q2, hq, h⟩ := sw_bnd h
    refine B_X11_kept_19  (FC_X11_isIn (Nat.le_refl _) hq) (Nat.lt_of_lt_of_le (by decide) hd) (fun v s hvs => ?_)
    obtain ⟨hv1, hv2⟩ := hvs; subst hv1; subst hv2
    refine B_X11_kept_28  (fun hc => ?_) (fun hc => ?_)
    · rw [if_pos hc] at h
      exact SC_X11_kept_47 hd h
    · rw [if_neg hc] at h
      obtain ⟨o3, h⟩ := sw_ifs h
      refine B_X11_kept_31 (sw_inb_sp o3) ?_
      exact SC_X11_kept_48 hd h
/-! StrayWoolModel.changes(I)V -/
noncomputable def S_X11_changes_2 (c2 : sw_St → Int32 → Int32 → Option (Unit × sw_St)) (σ : sw_St) (x1 : Int32) (x2 : Int32) : Option (Unit × sw_St) :=
  (F_X11_gapMany σ ).bind fun q1 => if q1.1 ≤ x2 then (some ((), q1.2)) else (if sw_inb (2 + x2) 245 = true then (if sw_inb (2 + x2) 245 = true then (c2 (sw_uI q1.2 37 ((2 + x2).toNatClampNeg) ((q1.2.1 37 ((2 + x2).toNatClampNeg)) ^^^ ((x1 >>> (x2 &&& 31)) &&& 1))) x1 (x2 + 1)) else none) else none)
theorem SC_X11_changes_2 {E : sw_E} {d : Nat} (hd : 1 ≤ d) {p : Unit × sw_St} {c2 : sw_St → Int32 → Int32 → Option (Unit × sw_St)} (h2 : ∀ (σ : sw_St) (x1 : Int32) (x2 : Int32), c2 σ x1 x2 = some p → sw_W E sw_gM m_X11_changes d 2 [(0, .ref 0), (1, .int x1), (2, .int x2)] [] σ (sw_pV p)) {σ : sw_St} {x1 : Int32} {x2 : Int32} (h : S_X11_changes_2 c2 σ x1 x2 = some p) : sw_W E sw_gM m_X11_changes d 2 [(0, .ref 0), (1, .int x1), (2, .int x2)] [] σ (sw_pV p) := by
  unfold S_X11_changes_2 at h
  obtain ⟨q1, hq, h⟩ := sw_bnd h
  refine B_X11_changes_2  (FC_X11_gapMany (Nat.le_refl _) hq) (Nat.lt_of_lt_of_le (by decide) hd) (fun v s hvs => ?_)
  obtain ⟨hv1, hv2⟩ := hvs; subst hv1; subst hv2
  refine B_X11_changes_7  (fun hc => ?_) (fun hc => ?_)
  · rw [if_pos hc] at h
    cases h
    exact B_X11_changes_32  ⟨rfl, rfl⟩
  · rw [if_neg hc] at h
    obtain ⟨o2, h⟩ := sw_ifs h
    obtain ⟨o3, h⟩ := sw_ifs h
    refine B_X11_changes_10 (sw_inb_sp o2) (sw_inb_sp o3) ?_
    exact h2 _ _ _ h
noncomputable def L_X11_changes_2 : Nat → sw_St → Int32 → Int32 → Option (Unit × sw_St)
  | 0, _, _, _ => none
  | k + 1, σ, x1, x2 => S_X11_changes_2 (fun σ x1 x2 => L_X11_changes_2 k σ x1 x2) σ x1 x2
theorem LC_X11_changes_2 {E : sw_E} {d : Nat} (hd : 1 ≤ d) {p : Unit × sw_St} : ∀ (k : Nat) (σ : sw_St) (x1 : Int32) (x2 : Int32), L_X11_changes_2 k σ x1 x2 = some p → sw_W E sw_gM m_X11_changes d 2 [(0, .ref 0), (1, .int x1), (2, .int x2)] [] σ (sw_pV p) := by
  intro k
  induction k with
  | zero => intro σ x1 x2 h; cases h
  | succ k ih => intro σ x1 x2 h; exact SC_X11_changes_2 hd ih h
noncomputable def F_X11_changes (σ : sw_St) (x1 : Int32) : Option (Unit × sw_St) :=
  L_X11_changes_2 sw_fuel σ x1 0
theorem FC_X11_changes {E : sw_E} {d : Nat} (hd : 1 ≤ d) {p : Unit × sw_St} {σ : sw_St} {x1 : Int32} (h : F_X11_changes σ x1 = some p) : sw_KV E sw_gM m_X11_changes d [.ref 0, .int x1] σ (fun s => s = p.2) := by
  unfold F_X11_changes at h
  refine sw_K.of (by decide +kernel) rfl (Nat.le_of_ble_eq_true rfl) ?_
  show sw_W E sw_gM m_X11_changes d 0 [(0, .ref 0), (1, .int x1)] [] σ (sw_pV p)
  refine B_X11_changes_0  ?_
  exact LC_X11_changes_2 hd _ _ _ _ h
/-! StrayWoolModel.isCheaper(III)Z -/
noncomputable def S_X11_isCheaper_37 (σ : sw_St) : Option (Int32 × sw_St) :=
  some (0, σ)
theorem SC_X11_isCheaper_37 {E : sw_E} {d : Nat} (hd : 0 ≤ d) {p : Int32 × sw_St} {σ : sw_St} (h : S_X11_isCheaper_37 σ  = some p) : sw_W E sw_gM m_X11_isCheaper d 37 [] [] σ (sw_pI p) := by
  unfold S_X11_isCheaper_37 at h
  cases h
  exact B_X11_isCheaper_37  ⟨_, rfl, rfl, rfl⟩
noncomputable def S_X11_isCheaper_39 (σ : sw_St) (x1 : Int32) (x2 : Int32) (x3 : Int32) : Option (Int32 × sw_St) :=
  if sw_inb x1 8 = true then (if sw_inb x2 8 = true then (some (1, (sw_uI σ 41 x2.toNatClampNeg ((σ.1 41 x1.toNatClampNeg) + x3)))) else none) else none
theorem SC_X11_isCheaper_39 {E : sw_E} {d : Nat} (hd : 0 ≤ d) {p : Int32 × sw_St} {σ : sw_St} {x1 : Int32} {x2 : Int32} {x3 : Int32} (h : S_X11_isCheaper_39 σ x1 x2 x3 = some p) : sw_W E sw_gM m_X11_isCheaper d 39 [(0, .ref 0), (1, .int x1), (2, .int x2), (3, .int x3)] [] σ (sw_pI p) := by
  unfold S_X11_isCheaper_39 at h
  obtain ⟨o1, h⟩ := sw_ifs h
  obtain ⟨o2, h⟩ := sw_ifs h
  cases h
  exact B_X11_isCheaper_39 (sw_inb_sp o1) (sw_inb_sp o2) ⟨_, rfl, rfl, rfl⟩
noncomputable def F_X11_isCheaper (σ : sw_St) (x1 : Int32) (x2 : Int32) (x3 : Int32) : Option (Int32 × sw_St) :=
  if sw_inb x1 8 = true then (if (σ.1 41 x1.toNatClampNeg) = (-1) then (S_X11_isCheaper_37 σ ) else (if sw_inb x2 8 = true then (if (σ.1 41 x2.toNatClampNeg) = (-1) then (S_X11_isCheaper_39 σ x1 x2 x3) else (if sw_inb x2 8 = true then (if sw_inb x1 8 = true then (if ((σ.1 41 x1.toNatClampNeg) + x3) < (σ.1 41 x2.toNatClampNeg) then (S_X11_isCheaper_39 σ x1 x2 x3) else (S_X11_isCheaper_37 σ )) else none) else none)) else none)) else none
theorem FC_X11_isCheaper {E : sw_E} {d : Nat} (hd : 0 ≤ d) {p : Int32 × sw_St} {σ : sw_St} {x1 : Int32} {x2 : Int32} {x3 : Int32} (h : F_X11_isCheaper σ x1 x2 x3 = some p) : sw_KI E sw_gM m_X11_isCheaper d [.ref 0, .int x1, .int x2, .int x3] σ (fun v s => v = p.1 ∧ s = p.2) := by
  unfold F_X11_isCheaper at h
  refine sw_K.of (by decide +kernel) rfl (Nat.le_of_ble_eq_true rfl) ?_
  show sw_W E sw_gM m_X11_isCheaper d 0 [(0, .ref 0), (1, .int x1), (2, .int x2), (3, .int x3)] [] σ (sw_pI p)
  obtain ⟨o1, h⟩ := sw_ifs h
  refine B_X11_isCheaper_0 (sw_inb_sp o1) (fun hc => ?_) (fun hc => ?_)
  · rw [if_pos hc] at h
    exact SC_X11_isCheaper_37 hd h
  · rw [if_neg hc] at h
    obtain ⟨o2, h⟩ := sw_ifs h
    refine B_X11_isCheaper_10 (sw_inb_sp o2) (fun hc => ?_) (fun hc => ?_)
    · rw [if_pos hc] at h
      exact SC_X11_isCheaper_39 hd h
    · rw [if_neg hc] at h
      obtain ⟨o3, h⟩ := sw_ifs h
      obtain ⟨o4, h⟩ := sw_ifs h
      refine B_X11_isCheaper_20 (sw_inb_sp o3) (sw_inb_sp o4) (fun hc => ?_) (fun hc => ?_)
      · rw [if_pos hc] at h
        exact SC_X11_isCheaper_39 hd h
      · rw [if_neg hc] at h
        exact SC_X11_isCheaper_37 hd h
/-! StrayWoolModel.way(II)I -/
noncomputable def S_X11_way_18 (σ : sw_St) : Option (Int32 × sw_St) :=
  some ((-1), σ)
theorem SC_X11_way_18 {E : sw_E} {d : Nat} (hd : 2 ≤ d) {p : Int32 × sw_St} {σ : sw_St} (h : S_X11_way_18 σ  = some p) : sw_W E sw_gM m_X11_way d 18 [] [] σ (sw_pI p) := by
  unfold S_X11_way_18 at h
  cases h
  exact B_X11_way_18  ⟨_, rfl, rfl, rfl⟩
noncomputable def S_X11_way_148 (c52 : sw_St → Int32 → Int32 → Option (Int32 × sw_St)) (c61 : sw_St → Int32 → Int32 → Int32 → Option (Int32 × sw_St)) (σ : sw_St) (x2 : Int32) (x3 : Int32) (x4 : Int32) : Option (Int32 × sw_St) :=
  c61 σ x2 x3 (x4 + 1)
theorem SC_X11_way_148 {E : sw_E} {d : Nat} (hd : 2 ≤ d) {p : Int32 × sw_St} {c52 : sw_St → Int32 → Int32 → Option (Int32 × sw_St)} {c61 : sw_St → Int32 → Int32 → Int32 → Option (Int32 × sw_St)} (h52 : ∀ (σ : sw_St) (x2 : Int32) (x3 : Int32), c52 σ x2 x3 = some p → sw_W E sw_gM m_X11_way d 52 [(0, .ref 0), (2, .int x2), (3, .int x3)] [] σ (sw_pI p)) (h61 : ∀ (σ : sw_St) (x2 : Int32) (x3 : Int32) (x4 : Int32), c61 σ x2 x3 x4 = some p → sw_W E sw_gM m_X11_way d 61 [(0, .ref 0), (2, .int x2), (3, .int x3), (4, .int x4)] [] σ (sw_pI p)) {σ : sw_St} {x2 : Int32} {x3 : Int32} {x4 : Int32} (h : S_X11_way_148 c52 c61 σ x2 x3 x4 = some p) : sw_W E sw_gM m_X11_way d 148 [(0, .ref 0), (2, .int x2), (3, .int x3), (4, .int x4)] [] σ (sw_pI p) := by
  unfold S_X11_way_148 at h
  refine B_X11_way_148  ?_
  exact h61 _ _ _ _ h
noncomputable def S_X11_way_129 (c52 : sw_St → Int32 → Int32 → Option (Int32 × sw_St)) (c61 : sw_St → Int32 → Int32 → Int32 → Option (Int32 × sw_St)) (σ : sw_St) (x2 : Int32) (x3 : Int32) (x4 : Int32) (x5 : Int32) (x6 : Int32) : Option (Int32 × sw_St) :=
  (F_X11_milesOf σ x4).bind fun q1 => (F_X11_isCheaper q1.2 x6 x5 q1.1).bind fun q2 => if q2.1 = 0 then (S_X11_way_148 c52 c61 q2.2 x2 x3 x4) else (S_X11_way_148 c52 c61 q2.2 x2 1 x4)
theorem SC_X11_way_129 {E : sw_E} {d : Nat} (hd : 2 ≤ d) {p : Int32 × sw_St} {c52 : sw_St → Int32 → Int32 → Option (Int32 × sw_St)} {c61 : sw_St → Int32 → Int32 → Int32 → Option (Int32 × sw_St)} (h52 : ∀ (σ : sw_St) (x2 : Int32) (x3 : Int32), c52 σ x2 x3 = some p → sw_W E sw_gM m_X11_way d 52 [(0, .ref 0), (2, .int x2), (3, .int x3)] [] σ (sw_pI p)) (h61 : ∀ (σ : sw_St) (x2 : Int32) (x3 : Int32) (x4 : Int32), c61 σ x2 x3 x4 = some p → sw_W E sw_gM m_X11_way d 61 [(0, .ref 0), (2, .int x2), (3, .int x3), (4, .int x4)] [] σ (sw_pI p)) {σ : sw_St} {x2 : Int32} {x3 : Int32} {x4 : Int32} {x5 : Int32} {x6 : Int32} (h : S_X11_way_129 c52 c61 σ x2 x3 x4 x5 x6 = some p) : sw_W E sw_gM m_X11_way d 129 [(0, .ref 0), (2, .int x2), (3, .int x3), (4, .int x4), (5, .int x5), (6, .int x6)] [] σ (sw_pI p) := by
  unfold S_X11_way_129 at h
  obtain ⟨q1, hq, h⟩ := sw_bnd h
  refine B_X11_way_129  (FC_X11_milesOf (Nat.le_refl _) hq) (Nat.lt_of_lt_of_le (by decide) hd) (fun v s hvs => ?_)
  obtain ⟨hv1, hv2⟩ := hvs; subst hv1; subst hv2
  obtain ⟨q2, hq, h⟩ := sw_bnd h
  refine B_X11_way_140  (FC_X11_isCheaper (Nat.le_refl _) hq) (Nat.lt_of_lt_of_le (by decide) hd) (fun v s hvs => ?_)
  obtain ⟨hv1, hv2⟩ := hvs; subst hv1; subst hv2
  refine B_X11_way_143  (fun hc => ?_) (fun hc => ?_)
  · rw [if_pos hc] at h
    exact SC_X11_way_148 hd h52 h61 h
  · rw [if_neg hc] at h
    refine B_X11_way_146  ?_
    exact SC_X11_way_148 hd h52 h61 h
noncomputable def S_X11_way_61 (c52 : sw_St → Int32 → Int32 → Option (Int32 × sw_St)) (c61 : sw_St → Int32 → Int32 → Int32 → Option (Int32 × sw_St)) (σ : sw_St) (x2 : Int32) (x3 : Int32) (x4 : Int32) : Option (Int32 × sw_St) :=
  (F_X11_gapMany σ ).bind fun q1 => if q1.1 ≤ x4 then (c52 q1.2 x2 x3) else ((F_X11_isOpen q1.2 x4).bind fun q2 => if q2.1 = 0 then (S_X11_way_148 c52 c61 q2.2 x2 x3 x4) else (if sw_inb (30 + (3 * x4)) 60 = true then (if sw_inb (31 + (3 * x4)) 60 = true then ((F_X11_milesOf q2.2 x4).bind fun q5 => (F_X11_isCheaper q5.2 (q2.2.1 31 ((30 + (3 * x4)).toNatClampNeg)) (q2.2.1 31 ((31 + (3 * x4)).toNatClampNeg)) q5.1).bind fun q6 => if q6.1 = 0 then (S_X11_way_129 c52 c61 q6.2 x2 x3 x4 (q2.2.1 31 ((30 + (3 * x4)).toNatClampNeg)) (q2.2.1 31 ((31 + (3 * x4)).toNatClampNeg))) else (S_X11_way_129 c52 c61 q6.2 x2 1 x4 (q2.2.1 31 ((30 + (3 * x4)).toNatClampNeg)) (q2.2.1 31 ((31 + (3 * x4)).toNatClampNeg)))) else none) else none))
theorem SC_X11_way_61 {E : sw_E} {d : Nat} (hd : 2 ≤ d) {p : Int32 × sw_St} {c52 : sw_St → Int32 → Int32 → Option (Int32 × sw_St)} {c61 : sw_St → Int32 → Int32 → Int32 → Option (Int32 × sw_St)} (h52 : ∀ (σ : sw_St) (x2 : Int32) (x3 : Int32), c52 σ x2 x3 = some p → sw_W E sw_gM m_X11_way d 52 [(0, .ref 0), (2, .int x2), (3, .int x3)] [] σ (sw_pI p)) (h61 : ∀ (σ : sw_St) (x2 : Int32) (x3 : Int32) (x4 : Int32), c61 σ x2 x3 x4 = some p → sw_W E sw_gM m_X11_way d 61 [(0, .ref 0), (2, .int x2), (3, .int x3), (4, .int x4)] [] σ (sw_pI p)) {σ : sw_St} {x2 : Int32} {x3 : Int32} {x4 : Int32} (h : S_X11_way_61 c52 c61 σ x2 x3 x4 = some p) : sw_W E sw_gM m_X11_way d 61 [(0, .ref 0), (2, .int x2), (3, .int x3), (4, .int x4)] [] σ (sw_pI p) := by
  unfold S_X11_way_61 at h
  obtain ⟨q1, hq, h⟩ := sw_bnd h
  refine B_X11_way_61  (FC_X11_gapMany (Nat.le_refl _) hq) (Nat.lt_of_lt_of_le (by decide) hd) (fun v s hvs => ?_)
  obtain ⟨hv1, hv2⟩ := hvs; subst hv1; subst hv2
  refine B_X11_way_67  (fun hc => ?_) (fun hc => ?_)
  · rw [if_pos hc] at h
    refine B_X11_way_154  ?_
    exact h52 _ _ _ h
  · rw [if_neg hc] at h
    obtain ⟨q2, hq, h⟩ := sw_bnd h
    refine B_X11_way_70  (FC_X11_isOpen (Nat.le_refl _) hq) (Nat.lt_of_lt_of_le (by decide) hd) (fun v s hvs => ?_)
    obtain ⟨hv1, hv2⟩ := hvs; subst hv1; subst hv2
    refine B_X11_way_76  (fun hc => ?_) (fun hc => ?_)
    · rw [if_neg hc] at h
      obtain ⟨o3, h⟩ := sw_ifs h
      obtain ⟨o4, h⟩ := sw_ifs h
      obtain ⟨q5, hq, h⟩ := sw_bnd h
      refine B_X11_way_82 (sw_inb_sp o3) (sw_inb_sp o4) (FC_X11_milesOf (Nat.le_refl _) hq) (Nat.lt_of_lt_of_le (by decide) hd) (fun v s hvs => ?_)
      obtain ⟨hv1, hv2⟩ := hvs; subst hv1; subst hv2
      obtain ⟨q6, hq, h⟩ := sw_bnd h
      refine B_X11_way_121  (FC_X11_isCheaper (Nat.le_refl _) hq) (Nat.lt_of_lt_of_le (by decide) hd) (fun v s hvs => ?_)
      obtain ⟨hv1, hv2⟩ := hvs; subst hv1; subst hv2
      refine B_X11_way_124  (fun hc => ?_) (fun hc => ?_)
      · rw [if_pos hc] at h
        exact SC_X11_way_129 hd h52 h61 h
      · rw [if_neg hc] at h
        refine B_X11_way_127  ?_
        exact SC_X11_way_129 hd h52 h61 h
    · rw [if_pos hc] at h
      refine B_X11_way_79  ?_
      exact SC_X11_way_148 hd h52 h61 h
noncomputable def L_X11_way_61 (c52 : sw_St → Int32 → Int32 → Option (Int32 × sw_St)) : Nat → sw_St → Int32 → Int32 → Int32 → Option (Int32 × sw_St)
  | 0, _, _, _, _ => none
  | k + 1, σ, x2, x3, x4 => S_X11_way_61 c52 (fun σ x2 x3 x4 => L_X11_way_61 c52 k σ x2 x3 x4) σ x2 x3 x4
theorem LC_X11_way_61 {E : sw_E} {d : Nat} (hd : 2 ≤ d) {p : Int32 × sw_St} {c52 : sw_St → Int32 → Int32 → Option (Int32 × sw_St)} (h52 : ∀ (σ : sw_St) (x2 : Int32) (x3 : Int32), c52 σ x2 x3 = some p → sw_W E sw_gM m_X11_way d 52 [(0, .ref 0), (2, .int x2), (3, .int x3)] [] σ (sw_pI p)) : ∀ (k : Nat) (σ : sw_St) (x2 : Int32) (x3 : Int32) (x4 : Int32), L_X11_way_61 c52 k σ x2 x3 x4 = some p → sw_W E sw_gM m_X11_way d 61 [(0, .ref 0), (2, .int x2), (3, .int x3), (4, .int x4)] [] σ (sw_pI p) := by
  intro k
  induction k with
  | zero => intro σ x2 x3 x4 h; cases h
  | succ k ih => intro σ x2 x3 x4 h; exact SC_X11_way_61 hd h52 ih h
noncomputable def S_X11_way_52 (c52 : sw_St → Int32 → Int32 → Option (Int32 × sw_St)) (σ : sw_St) (x2 : Int32) (x3 : Int32) : Option (Int32 × sw_St) :=
  if x3 = 0 then (if sw_inb x2 8 = true then (some (σ.1 41 x2.toNatClampNeg, σ)) else none) else (L_X11_way_61 c52 sw_fuel σ x2 0 0)
theorem SC_X11_way_52 {E : sw_E} {d : Nat} (hd : 2 ≤ d) {p : Int32 × sw_St} {c52 : sw_St → Int32 → Int32 → Option (Int32 × sw_St)} (h52 : ∀ (σ : sw_St) (x2 : Int32) (x3 : Int32), c52 σ x2 x3 = some p → sw_W E sw_gM m_X11_way d 52 [(0, .ref 0), (2, .int x2), (3, .int x3)] [] σ (sw_pI p)) {σ : sw_St} {x2 : Int32} {x3 : Int32} (h : S_X11_way_52 c52 σ x2 x3 = some p) : sw_W E sw_gM m_X11_way d 52 [(0, .ref 0), (2, .int x2), (3, .int x3)] [] σ (sw_pI p) := by
  unfold S_X11_way_52 at h
  refine B_X11_way_52  (fun hc => ?_) (fun hc => ?_)
  · rw [if_pos hc] at h
    obtain ⟨o1, h⟩ := sw_ifs h
    cases h
    exact B_X11_way_157 (sw_inb_sp o1) ⟨_, rfl, rfl, rfl⟩
  · rw [if_neg hc] at h
    refine B_X11_way_56  ?_
    exact LC_X11_way_61 hd h52 _ _ _ _ _ h
noncomputable def L_X11_way_52 : Nat → sw_St → Int32 → Int32 → Option (Int32 × sw_St)
  | 0, _, _, _ => none
  | k + 1, σ, x2, x3 => S_X11_way_52 (fun σ x2 x3 => L_X11_way_52 k σ x2 x3) σ x2 x3
theorem LC_X11_way_52 {E : sw_E} {d : Nat} (hd : 2 ≤ d) {p : Int32 × sw_St} : ∀ (k : Nat) (σ : sw_St) (x2 : Int32) (x3 : Int32), L_X11_way_52 k σ x2 x3 = some p → sw_W E sw_gM m_X11_way d 52 [(0, .ref 0), (2, .int x2), (3, .int x3)] [] σ (sw_pI p) := by
  intro k
  induction k with
  | zero => intro σ x2 x3 h; cases h
  | succ k ih => intro σ x2 x3 h; exact SC_X11_way_52 hd ih h
noncomputable def S_X11_way_43 (c22 : sw_St → Int32 → Int32 → Int32 → Option (Int32 × sw_St)) (σ : sw_St) (x1 : Int32) (x2 : Int32) (x3 : Int32) (sx0 : Int32) (sx1 : Int32) : Option (Int32 × sw_St) :=
  if sw_inb sx1 8 = true then (c22 (sw_uI σ 41 sx1.toNatClampNeg sx0) x1 x2 (x3 + 1)) else none
theorem SC_X11_way_43 {E : sw_E} {d : Nat} (hd : 2 ≤ d) {p : Int32 × sw_St} {c22 : sw_St → Int32 → Int32 → Int32 → Option (Int32 × sw_St)} (h22 : ∀ (σ : sw_St) (x1 : Int32) (x2 : Int32) (x3 : Int32), c22 σ x1 x2 x3 = some p → sw_W E sw_gM m_X11_way d 22 [(0, .ref 0), (1, .int x1), (2, .int x2), (3, .int x3)] [] σ (sw_pI p)) {σ : sw_St} {x1 : Int32} {x2 : Int32} {x3 : Int32} {sx0 : Int32} {sx1 : Int32} (h : S_X11_way_43 c22 σ x1 x2 x3 sx0 sx1 = some p) : sw_W E sw_gM m_X11_way d 43 [(0, .ref 0), (1, .int x1), (2, .int x2), (3, .int x3)] [.int sx0, .int sx1, .ref 41] σ (sw_pI p) := by
  unfold S_X11_way_43 at h
  obtain ⟨o1, h⟩ := sw_ifs h
  refine B_X11_way_43 (sw_inb_sp o1) ?_
  exact h22 _ _ _ _ h
noncomputable def S_X11_way_22 (c22 : sw_St → Int32 → Int32 → Int32 → Option (Int32 × sw_St)) (σ : sw_St) (x1 : Int32) (x2 : Int32) (x3 : Int32) : Option (Int32 × sw_St) :=
  if 8 ≤ x3 then (L_X11_way_52 sw_fuel σ x2 1) else (if x3 = x1 then (S_X11_way_43 c22 σ x1 x2 x3 0 x3) else (S_X11_way_43 c22 σ x1 x2 x3 (-1) x3))
theorem SC_X11_way_22 {E : sw_E} {d : Nat} (hd : 2 ≤ d) {p : Int32 × sw_St} {c22 : sw_St → Int32 → Int32 → Int32 → Option (Int32 × sw_St)} (h22 : ∀ (σ : sw_St) (x1 : Int32) (x2 : Int32) (x3 : Int32), c22 σ x1 x2 x3 = some p → sw_W E sw_gM m_X11_way d 22 [(0, .ref 0), (1, .int x1), (2, .int x2), (3, .int x3)] [] σ (sw_pI p)) {σ : sw_St} {x1 : Int32} {x2 : Int32} {x3 : Int32} (h : S_X11_way_22 c22 σ x1 x2 x3 = some p) : sw_W E sw_gM m_X11_way d 22 [(0, .ref 0), (1, .int x1), (2, .int x2), (3, .int x3)] [] σ (sw_pI p) := by
  unfold S_X11_way_22 at h
  refine B_X11_way_22  (fun hc => ?_) (fun hc => ?_)
  · rw [if_pos hc] at h
    refine B_X11_way_50  ?_
    exact LC_X11_way_52 hd _ _ _ _ h
  · rw [if_neg hc] at h
    refine B_X11_way_28  (fun hc => ?_) (fun hc => ?_)
    · rw [if_neg hc] at h
      refine B_X11_way_42  ?_
      exact SC_X11_way_43 hd h22 h
    · rw [if_pos hc] at h
      refine B_X11_way_38  ?_
      exact SC_X11_way_43 hd h22 h
noncomputable def L_X11_way_22 : Nat → sw_St → Int32 → Int32 → Int32 → Option (Int32 × sw_St)
  | 0, _, _, _, _ => none
  | k + 1, σ, x1, x2, x3 => S_X11_way_22 (fun σ x1 x2 x3 => L_X11_way_22 k σ x1 x2 x3) σ x1 x2 x3
theorem LC_X11_way_22 {E : sw_E} {d : Nat} (hd : 2 ≤ d) {p : Int32 × sw_St} : ∀ (k : Nat) (σ : sw_St) (x1 : Int32) (x2 : Int32) (x3 : Int32), L_X11_way_22 k σ x1 x2 x3 = some p → sw_W E sw_gM m_X11_way d 22 [(0, .ref 0), (1, .int x1), (2, .int x2), (3, .int x3)] [] σ (sw_pI p) := by
  intro k
  induction k with
  | zero => intro σ x1 x2 x3 h; cases h
  | succ k ih => intro σ x1 x2 x3 h; exact SC_X11_way_22 hd ih h
noncomputable def F_X11_way (σ : sw_St) (x1 : Int32) (x2 : Int32) : Option (Int32 × sw_St) :=
  (F_X11_isField σ x1.toInt64).bind fun q1 => if q1.1 = 0 then (S_X11_way_18 q1.2 ) else ((F_X11_isField q1.2 x2.toInt64).bind fun q2 => if q2.1 = 0 then (S_X11_way_18 q2.2 ) else (L_X11_way_22 sw_fuel q2.2 x1 x2 0))
theorem FC_X11_way {E : sw_E} {d : Nat} (hd : 2 ≤ d) {p : Int32 × sw_St} {σ : sw_St} {x1 : Int32} {x2 : Int32} (h : F_X11_way σ x1 x2 = some p) : sw_KI E sw_gM m_X11_way d [.ref 0, .int x1, .int x2] σ (fun v s => v = p.1 ∧ s = p.2) := by
  unfold F_X11_way at h
  refine sw_K.of (by decide +kernel) rfl (Nat.le_of_ble_eq_true rfl) ?_
  show sw_W E sw_gM m_X11_way d 0 [(0, .ref 0), (1, .int x1), (2, .int x2)] [] σ (sw_pI p)
  obtain ⟨q1, hq, h⟩ := sw_bnd h
  refine B_X11_way_0  (FC_X11_isField (Nat.le_refl _) hq) (Nat.lt_of_lt_of_le (by decide) hd) (fun v s hvs => ?_)
  obtain ⟨hv1, hv2⟩ := hvs; subst hv1; subst hv2
  refine B_X11_way_6  (fun hc => ?_) (fun hc => ?_)
  · rw [if_pos hc] at h
    exact SC_X11_way_18 hd h
  · rw [if_neg hc] at h
    obtain ⟨q2, hq, h⟩ := sw_bnd h
    refine B_X11_way_9  (FC_X11_isField (Nat.le_refl _) hq) (Nat.lt_of_lt_of_le (by decide) hd) (fun v s hvs => ?_)
    obtain ⟨hv1, hv2⟩ := hvs; subst hv1; subst hv2
    refine B_X11_way_15  (fun hc => ?_) (fun hc => ?_)
    · rw [if_neg hc] at h
      refine B_X11_way_20  ?_
      exact LC_X11_way_22 hd _ _ _ _ _ h
    · rw [if_pos hc] at h
      exact SC_X11_way_18 hd h
/-! StrayWoolModel.milesBy(I)I -/
noncomputable def S_X11_milesBy_29 (c4 : sw_St → Int32 → Int32 → Int32 → Option (Int32 × sw_St)) (σ : sw_St) (x1 : Int32) (x2 : Int32) (x3 : Int32) : Option (Int32 × sw_St) :=
  c4 σ x1 x2 (x3 + 1)
theorem SC_X11_milesBy_29 {E : sw_E} {d : Nat} (hd : 1 ≤ d) {p : Int32 × sw_St} {c4 : sw_St → Int32 → Int32 → Int32 → Option (Int32 × sw_St)} (h4 : ∀ (σ : sw_St) (x1 : Int32) (x2 : Int32) (x3 : Int32), c4 σ x1 x2 x3 = some p → sw_W E sw_gM m_X11_milesBy d 4 [(0, .ref 0), (1, .int x1), (2, .int x2), (3, .int x3)] [] σ (sw_pI p)) {σ : sw_St} {x1 : Int32} {x2 : Int32} {x3 : Int32} (h : S_X11_milesBy_29 c4 σ x1 x2 x3 = some p) : sw_W E sw_gM m_X11_milesBy d 29 [(0, .ref 0), (1, .int x1), (2, .int x2), (3, .int x3)] [] σ (sw_pI p) := by
  unfold S_X11_milesBy_29 at h
  refine B_X11_milesBy_29  ?_
  exact h4 _ _ _ _ h
noncomputable def S_X11_milesBy_4 (c4 : sw_St → Int32 → Int32 → Int32 → Option (Int32 × sw_St)) (σ : sw_St) (x1 : Int32) (x2 : Int32) (x3 : Int32) : Option (Int32 × sw_St) :=
  (F_X11_sheepMany σ ).bind fun q1 => if q1.1 ≤ x3 then (some (x2, q1.2)) else (if ((x1 >>> (x3 &&& 31)) &&& 1) = 1 then ((F_X11_woolOf q1.2 x3).bind fun q2 => S_X11_milesBy_29 c4 q2.2 x1 (x2 + q2.1) x3) else (S_X11_milesBy_29 c4 q1.2 x1 x2 x3))
theorem SC_X11_milesBy_4 {E : sw_E} {d : Nat} (hd : 1 ≤ d) {p : Int32 × sw_St} {c4 : sw_St → Int32 → Int32 → Int32 → Option (Int32 × sw_St)} (h4 : ∀ (σ : sw_St) (x1 : Int32) (x2 : Int32) (x3 : Int32), c4 σ x1 x2 x3 = some p → sw_W E sw_gM m_X11_milesBy d 4 [(0, .ref 0), (1, .int x1), (2, .int x2), (3, .int x3)] [] σ (sw_pI p)) {σ : sw_St} {x1 : Int32} {x2 : Int32} {x3 : Int32} (h : S_X11_milesBy_4 c4 σ x1 x2 x3 = some p) : sw_W E sw_gM m_X11_milesBy d 4 [(0, .ref 0), (1, .int x1), (2, .int x2), (3, .int x3)] [] σ (sw_pI p) := by
  unfold S_X11_milesBy_4 at h
  obtain ⟨q1, hq, h⟩ := sw_bnd h
  refine B_X11_milesBy_4  (FC_X11_sheepMany (Nat.le_refl _) hq) (Nat.lt_of_lt_of_le (by decide) hd) (fun v s hvs => ?_)
  obtain ⟨hv1, hv2⟩ := hvs; subst hv1; subst hv2
  refine B_X11_milesBy_9  (fun hc => ?_) (fun hc => ?_)
  · rw [if_pos hc] at h
    cases h
    exact B_X11_milesBy_35  ⟨_, rfl, rfl, rfl⟩
  · rw [if_neg hc] at h
    refine B_X11_milesBy_12  (fun hc => ?_) (fun hc => ?_)
    · rw [if_neg hc] at h
      exact SC_X11_milesBy_29 hd h4 h
    · rw [if_pos hc] at h
      obtain ⟨q2, hq, h⟩ := sw_bnd h
      refine B_X11_milesBy_21  (FC_X11_woolOf (Nat.le_refl _) hq) (Nat.lt_of_lt_of_le (by decide) hd) (fun v s hvs => ?_)
      obtain ⟨hv1, hv2⟩ := hvs; subst hv1; subst hv2
      refine B_X11_milesBy_27  ?_
      exact SC_X11_milesBy_29 hd h4 h
noncomputable def L_X11_milesBy_4 : Nat → sw_St → Int32 → Int32 → Int32 → Option (Int32 × sw_St)
  | 0, _, _, _, _ => none
  | k + 1, σ, x1, x2, x3 => S_X11_milesBy_4 (fun σ x1 x2 x3 => L_X11_milesBy_4 k σ x1 x2 x3) σ x1 x2 x3
theorem LC_X11_milesBy_4 {E : sw_E} {d : Nat} (hd : 1 ≤ d) {p : Int32 × sw_St} : ∀ (k : Nat) (σ : sw_St) (x1 : Int32) (x2 : Int32) (x3 : Int32), L_X11_milesBy_4 k σ x1 x2 x3 = some p → sw_W E sw_gM m_X11_milesBy d 4 [(0, .ref 0), (1, .int x1), (2, .int x2), (3, .int x3)] [] σ (sw_pI p) := by
  intro k
  induction k with
  | zero => intro σ x1 x2 x3 h; cases h
  | succ k ih => intro σ x1 x2 x3 h; exact SC_X11_milesBy_4 hd ih h
noncomputable def F_X11_milesBy (σ : sw_St) (x1 : Int32) : Option (Int32 × sw_St) :=
  L_X11_milesBy_4 sw_fuel σ x1 0 0
theorem FC_X11_milesBy {E : sw_E} {d : Nat} (hd : 1 ≤ d) {p : Int32 × sw_St} {σ : sw_St} {x1 : Int32} (h : F_X11_milesBy σ x1 = some p) : sw_KI E sw_gM m_X11_milesBy d [.ref 0, .int x1] σ (fun v s => v = p.1 ∧ s = p.2) := by
  unfold F_X11_milesBy at h
  refine sw_K.of (by decide +kernel) rfl (Nat.le_of_ble_eq_true rfl) ?_
  show sw_W E sw_gM m_X11_milesBy d 0 [(0, .ref 0), (1, .int x1)] [] σ (sw_pI p)
  refine B_X11_milesBy_0  ?_
  exact LC_X11_milesBy_4 hd _ _ _ _ _ h
/-! StrayWoolModel.coat(I)I -/
noncomputable def S_X11_coat_94 (c18 : sw_St → Int32 → Int32 → Int32 → Option (Int32 × sw_St)) (σ : sw_St) (x1 : Int32) (x2 : Int32) (x3 : Int32) : Option (Int32 × sw_St) :=
  c18 σ x1 x2 (x3 + 1)
theorem SC_X11_coat_94 {E : sw_E} {d : Nat} (hd : 2 ≤ d) {p : Int32 × sw_St} {c18 : sw_St → Int32 → Int32 → Int32 → Option (Int32 × sw_St)} (h18 : ∀ (σ : sw_St) (x1 : Int32) (x2 : Int32) (x3 : Int32), c18 σ x1 x2 x3 = some p → sw_W E sw_gM m_X11_coat d 18 [(0, .ref 0), (1, .int x1), (2, .int x2), (3, .int x3)] [] σ (sw_pI p)) {σ : sw_St} {x1 : Int32} {x2 : Int32} {x3 : Int32} (h : S_X11_coat_94 c18 σ x1 x2 x3 = some p) : sw_W E sw_gM m_X11_coat d 94 [(0, .ref 0), (1, .int x1), (2, .int x2), (3, .int x3)] [] σ (sw_pI p) := by
  unfold S_X11_coat_94 at h
  refine B_X11_coat_94  ?_
  exact h18 _ _ _ _ h
noncomputable def S_X11_coat_85 (c18 : sw_St → Int32 → Int32 → Int32 → Option (Int32 × sw_St)) (σ : sw_St) (x1 : Int32) (x2 : Int32) (x3 : Int32) (sx0 : Int32) : Option (Int32 × sw_St) :=
  if sx0 = 0 then (S_X11_coat_94 c18 σ x1 x2 x3) else (S_X11_coat_94 c18 σ x1 x3 x3)
theorem SC_X11_coat_85 {E : sw_E} {d : Nat} (hd : 2 ≤ d) {p : Int32 × sw_St} {c18 : sw_St → Int32 → Int32 → Int32 → Option (Int32 × sw_St)} (h18 : ∀ (σ : sw_St) (x1 : Int32) (x2 : Int32) (x3 : Int32), c18 σ x1 x2 x3 = some p → sw_W E sw_gM m_X11_coat d 18 [(0, .ref 0), (1, .int x1), (2, .int x2), (3, .int x3)] [] σ (sw_pI p)) {σ : sw_St} {x1 : Int32} {x2 : Int32} {x3 : Int32} {sx0 : Int32} (h : S_X11_coat_85 c18 σ x1 x2 x3 sx0 = some p) : sw_W E sw_gM m_X11_coat d 85 [(0, .ref 0), (1, .int x1), (2, .int x2), (3, .int x3)] [.int sx0] σ (sw_pI p) := by
  unfold S_X11_coat_85 at h
  refine B_X11_coat_85  (fun hc => ?_) (fun hc => ?_)
  · rw [if_pos hc] at h
    exact SC_X11_coat_94 hd h18 h
  · rw [if_neg hc] at h
    refine B_X11_coat_92  ?_
    exact SC_X11_coat_94 hd h18 h
noncomputable def S_X11_coat_80 (c18 : sw_St → Int32 → Int32 → Int32 → Option (Int32 × sw_St)) (σ : sw_St) (x1 : Int32) (x2 : Int32) (x3 : Int32) : Option (Int32 × sw_St) :=
  S_X11_coat_85 c18 σ x1 x2 x3 1
theorem SC_X11_coat_80 {E : sw_E} {d : Nat} (hd : 2 ≤ d) {p : Int32 × sw_St} {c18 : sw_St → Int32 → Int32 → Int32 → Option (Int32 × sw_St)} (h18 : ∀ (σ : sw_St) (x1 : Int32) (x2 : Int32) (x3 : Int32), c18 σ x1 x2 x3 = some p → sw_W E sw_gM m_X11_coat d 18 [(0, .ref 0), (1, .int x1), (2, .int x2), (3, .int x3)] [] σ (sw_pI p)) {σ : sw_St} {x1 : Int32} {x2 : Int32} {x3 : Int32} (h : S_X11_coat_80 c18 σ x1 x2 x3 = some p) : sw_W E sw_gM m_X11_coat d 80 [(0, .ref 0), (1, .int x1), (2, .int x2), (3, .int x3)] [] σ (sw_pI p) := by
  unfold S_X11_coat_80 at h
  refine B_X11_coat_80  ?_
  exact SC_X11_coat_85 hd h18 h
noncomputable def S_X11_coat_84 (c18 : sw_St → Int32 → Int32 → Int32 → Option (Int32 × sw_St)) (σ : sw_St) (x1 : Int32) (x2 : Int32) (x3 : Int32) : Option (Int32 × sw_St) :=
  S_X11_coat_85 c18 σ x1 x2 x3 0
theorem SC_X11_coat_84 {E : sw_E} {d : Nat} (hd : 2 ≤ d) {p : Int32 × sw_St} {c18 : sw_St → Int32 → Int32 → Int32 → Option (Int32 × sw_St)} (h18 : ∀ (σ : sw_St) (x1 : Int32) (x2 : Int32) (x3 : Int32), c18 σ x1 x2 x3 = some p → sw_W E sw_gM m_X11_coat d 18 [(0, .ref 0), (1, .int x1), (2, .int x2), (3, .int x3)] [] σ (sw_pI p)) {σ : sw_St} {x1 : Int32} {x2 : Int32} {x3 : Int32} (h : S_X11_coat_84 c18 σ x1 x2 x3 = some p) : sw_W E sw_gM m_X11_coat d 84 [(0, .ref 0), (1, .int x1), (2, .int x2), (3, .int x3)] [] σ (sw_pI p) := by
  unfold S_X11_coat_84 at h
  refine B_X11_coat_84  ?_
  exact SC_X11_coat_85 hd h18 h
noncomputable def S_X11_coat_18 (c18 : sw_St → Int32 → Int32 → Int32 → Option (Int32 × sw_St)) (σ : sw_St) (x1 : Int32) (x2 : Int32) (x3 : Int32) : Option (Int32 × sw_St) :=
  (F_X11_sheepMany σ ).bind fun q1 => if ((1 : Int32) <<< (q1.1 &&& 31)) ≤ x3 then (some (x2, q1.2)) else ((F_X11_milesBy q1.2 x3).bind fun q2 => if x1 ≤ q2.1 then (if x2 = (-1) then (S_X11_coat_80 c18 q2.2 x1 x2 x3) else ((F_X11_bits q2.2 x3).bind fun q3 => (F_X11_bits q3.2 x2).bind fun q4 => if q3.1 < q4.1 then (S_X11_coat_80 c18 q4.2 x1 x2 x3) else ((F_X11_bits q4.2 x3).bind fun q5 => (F_X11_bits q5.2 x2).bind fun q6 => if q5.1 = q6.1 then ((F_X11_milesBy q6.2 x3).bind fun q7 => (F_X11_milesBy q7.2 x2).bind fun q8 => if q8.1 ≤ q7.1 then (S_X11_coat_84 c18 q8.2 x1 x2 x3) else (S_X11_coat_80 c18 q8.2 x1 x2 x3)) else (S_X11_coat_84 c18 q6.2 x1 x2 x3)))) else (S_X11_coat_94 c18 q2.2 x1 x2 x3))
theorem SC_X11_coat_18 {E : sw_E} {d : Nat} (hd : 2 ≤ d) {p : Int32 × sw_St} {c18 : sw_St → Int32 → Int32 → Int32 → Option (Int32 × sw_St)} (h18 : ∀ (σ : sw_St) (x1 : Int32) (x2 : Int32) (x3 : Int32), c18 σ x1 x2 x3 = some p → sw_W E sw_gM m_X11_coat d 18 [(0, .ref 0), (1, .int x1), (2, .int x2), (3, .int x3)] [] σ (sw_pI p)) {σ : sw_St} {x1 : Int32} {x2 : Int32} {x3 : Int32} (h : S_X11_coat_18 c18 σ x1 x2 x3 = some p) : sw_W E sw_gM m_X11_coat d 18 [(0, .ref 0), (1, .int x1), (2, .int x2), (3, .int x3)] [] σ (sw_pI p) := by
  unfold S_X11_coat_18 at h
  obtain ⟨q1, hq, h⟩ := sw_bnd h
  refine B_X11_coat_18  (FC_X11_sheepMany (Nat.le_refl _) hq) (Nat.lt_of_lt_of_le (by decide) hd) (fun v s hvs => ?_)
  obtain ⟨hv1, hv2⟩ := hvs; subst hv1; subst hv2
  refine B_X11_coat_24  (fun hc => ?_) (fun hc => ?_)
  · rw [if_pos hc] at h
    cases h
    exact B_X11_coat_100  ⟨_, rfl, rfl, rfl⟩
  · rw [if_neg hc] at h
    obtain ⟨q2, hq, h⟩ := sw_bnd h
    refine B_X11_coat_28  (FC_X11_milesBy (Nat.le_refl _) hq) (Nat.lt_of_lt_of_le (by decide) hd) (fun v s hvs => ?_)
    obtain ⟨hv1, hv2⟩ := hvs; subst hv1; subst hv2
    refine B_X11_coat_33  (fun hc => ?_) (fun hc => ?_)
    · rw [if_pos hc] at h
      refine B_X11_coat_40  (fun hc => ?_) (fun hc => ?_)
      · rw [if_pos hc] at h
        exact SC_X11_coat_80 hd h18 h
      · rw [if_neg hc] at h
        obtain ⟨q3, hq, h⟩ := sw_bnd h
        refine B_X11_coat_45  (FC_X11_bits (Nat.le_refl _) hq) (Nat.lt_of_lt_of_le (by decide) hd) (fun v s hvs => ?_)
        obtain ⟨hv1, hv2⟩ := hvs; subst hv1; subst hv2
        obtain ⟨q4, hq, h⟩ := sw_bnd h
        refine B_X11_coat_49  (FC_X11_bits (Nat.le_refl _) hq) (Nat.lt_of_lt_of_le (by decide) hd) (fun v s hvs => ?_)
        obtain ⟨hv1, hv2⟩ := hvs; subst hv1; subst hv2
        refine B_X11_coat_53  (fun hc => ?_) (fun hc => ?_)
        · rw [if_pos hc] at h
          exact SC_X11_coat_80 hd h18 h
        · rw [if_neg hc] at h
          obtain ⟨q5, hq, h⟩ := sw_bnd h
          refine B_X11_coat_56  (FC_X11_bits (Nat.le_refl _) hq) (Nat.lt_of_lt_of_le (by decide) hd) (fun v s hvs => ?_)
          obtain ⟨hv1, hv2⟩ := hvs; subst hv1; subst hv2
          obtain ⟨q6, hq, h⟩ := sw_bnd h
          refine B_X11_coat_60  (FC_X11_bits (Nat.le_refl _) hq) (Nat.lt_of_lt_of_le (by decide) hd) (fun v s hvs => ?_)
          obtain ⟨hv1, hv2⟩ := hvs; subst hv1; subst hv2
          refine B_X11_coat_64  (fun hc => ?_) (fun hc => ?_)
          · rw [if_neg hc] at h
            exact SC_X11_coat_84 hd h18 h
          · rw [if_pos hc] at h
            obtain ⟨q7, hq, h⟩ := sw_bnd h
            refine B_X11_coat_67  (FC_X11_milesBy (Nat.le_refl _) hq) (Nat.lt_of_lt_of_le (by decide) hd) (fun v s hvs => ?_)
            obtain ⟨hv1, hv2⟩ := hvs; subst hv1; subst hv2
            obtain ⟨q8, hq, h⟩ := sw_bnd h
            refine B_X11_coat_72  (FC_X11_milesBy (Nat.le_refl _) hq) (Nat.lt_of_lt_of_le (by decide) hd) (fun v s hvs => ?_)
            obtain ⟨hv1, hv2⟩ := hvs; subst hv1; subst hv2
            refine B_X11_coat_77  (fun hc => ?_) (fun hc => ?_)
            · rw [if_pos hc] at h
              exact SC_X11_coat_84 hd h18 h
            · rw [if_neg hc] at h
              exact SC_X11_coat_80 hd h18 h
    · rw [if_neg hc] at h
      refine B_X11_coat_37  ?_
      exact SC_X11_coat_94 hd h18 h
noncomputable def L_X11_coat_18 : Nat → sw_St → Int32 → Int32 → Int32 → Option (Int32 × sw_St)
  | 0, _, _, _, _ => none
  | k + 1, σ, x1, x2, x3 => S_X11_coat_18 (fun σ x1 x2 x3 => L_X11_coat_18 k σ x1 x2 x3) σ x1 x2 x3
theorem LC_X11_coat_18 {E : sw_E} {d : Nat} (hd : 2 ≤ d) {p : Int32 × sw_St} : ∀ (k : Nat) (σ : sw_St) (x1 : Int32) (x2 : Int32) (x3 : Int32), L_X11_coat_18 k σ x1 x2 x3 = some p → sw_W E sw_gM m_X11_coat d 18 [(0, .ref 0), (1, .int x1), (2, .int x2), (3, .int x3)] [] σ (sw_pI p) := by
  intro k
  induction k with
  | zero => intro σ x1 x2 x3 h; cases h
  | succ k ih => intro σ x1 x2 x3 h; exact SC_X11_coat_18 hd ih h
noncomputable def F_X11_coat (σ : sw_St) (x1 : Int32) : Option (Int32 × sw_St) :=
  (F_X11_isIn σ x1.toInt64 1 9999).bind fun q1 => if q1.1 = 0 then (some ((-1), q1.2)) else (L_X11_coat_18 sw_fuel q1.2 x1 (-1) 0)
theorem FC_X11_coat {E : sw_E} {d : Nat} (hd : 2 ≤ d) {p : Int32 × sw_St} {σ : sw_St} {x1 : Int32} (h : F_X11_coat σ x1 = some p) : sw_KI E sw_gM m_X11_coat d [.ref 0, .int x1] σ (fun v s => v = p.1 ∧ s = p.2) := by
  unfold F_X11_coat at h
  refine sw_K.of (by decide +kernel) rfl (Nat.le_of_ble_eq_true rfl) ?_
  show sw_W E sw_gM m_X11_coat d 0 [(0, .ref 0), (1, .int x1)] [] σ (sw_pI p)
  obtain ⟨q1, hq, h⟩ := sw_bnd h
  refine B_X11_coat_0  (FC_X11_isIn (Nat.le_refl _) hq) (Nat.lt_of_lt_of_le (by decide) hd) (fun v s hvs => ?_)
  obtain ⟨hv1, hv2⟩ := hvs; subst hv1; subst hv2
  refine B_X11_coat_9  (fun hc => ?_) (fun hc => ?_)
  · rw [if_neg hc] at h
    refine B_X11_coat_14  ?_
    exact LC_X11_coat_18 hd _ _ _ _ _ h
  · rw [if_pos hc] at h
    cases h
    exact B_X11_coat_12  ⟨_, rfl, rfl, rfl⟩
/-! StrayWoolModel.watchers(I)I -/
noncomputable def S_X11_watchers_35 (c6 : sw_St → Int32 → Int32 → Int32 → Option (Int32 × sw_St)) (σ : sw_St) (x1 : Int32) (x2 : Int32) (x3 : Int32) : Option (Int32 × sw_St) :=
  c6 σ x1 x2 (x3 + 1)
theorem SC_X11_watchers_35 {E : sw_E} {d : Nat} (hd : 2 ≤ d) {p : Int32 × sw_St} {c6 : sw_St → Int32 → Int32 → Int32 → Option (Int32 × sw_St)} (h6 : ∀ (σ : sw_St) (x1 : Int32) (x2 : Int32) (x3 : Int32), c6 σ x1 x2 x3 = some p → sw_W E sw_gM m_X11_watchers d 6 [(0, .ref 0), (1, .int x1), (2, .int x2), (3, .int x3)] [] σ (sw_pI p)) {σ : sw_St} {x1 : Int32} {x2 : Int32} {x3 : Int32} (h : S_X11_watchers_35 c6 σ x1 x2 x3 = some p) : sw_W E sw_gM m_X11_watchers d 35 [(0, .ref 0), (1, .int x1), (2, .int x2), (3, .int x3)] [] σ (sw_pI p) := by
  unfold S_X11_watchers_35 at h
  refine B_X11_watchers_35  ?_
  exact h6 _ _ _ _ h
noncomputable def S_X11_watchers_6 (c6 : sw_St → Int32 → Int32 → Int32 → Option (Int32 × sw_St)) (σ : sw_St) (x1 : Int32) (x2 : Int32) (x3 : Int32) : Option (Int32 × sw_St) :=
  (F_X11_gapMany σ ).bind fun q1 => if q1.1 ≤ x3 then (some (x2, q1.2)) else ((F_X11_acrossFrom q1.2 x1 x3).bind fun q2 => if q2.1 = (-1) then (S_X11_watchers_35 c6 q2.2 x1 x2 x3) else (S_X11_watchers_35 c6 q2.2 x1 (x2 ||| ((1 : Int32) <<< (q2.1 &&& 31))) x3))
theorem SC_X11_watchers_6 {E : sw_E} {d : Nat} (hd : 2 ≤ d) {p : Int32 × sw_St} {c6 : sw_St → Int32 → Int32 → Int32 → Option (Int32 × sw_St)} (h6 : ∀ (σ : sw_St) (x1 : Int32) (x2 : Int32) (x3 : Int32), c6 σ x1 x2 x3 = some p → sw_W E sw_gM m_X11_watchers d 6 [(0, .ref 0), (1, .int x1), (2, .int x2), (3, .int x3)] [] σ (sw_pI p)) {σ : sw_St} {x1 : Int32} {x2 : Int32} {x3 : Int32} (h : S_X11_watchers_6 c6 σ x1 x2 x3 = some p) : sw_W E sw_gM m_X11_watchers d 6 [(0, .ref 0), (1, .int x1), (2, .int x2), (3, .int x3)] [] σ (sw_pI p) := by
  unfold S_X11_watchers_6 at h
  obtain ⟨q1, hq, h⟩ := sw_bnd h
  refine B_X11_watchers_6  (FC_X11_gapMany (Nat.le_refl _) hq) (Nat.lt_of_lt_of_le (by decide) hd) (fun v s hvs => ?_)
  obtain ⟨hv1, hv2⟩ := hvs; subst hv1; subst hv2
  refine B_X11_watchers_11  (fun hc => ?_) (fun hc => ?_)
  · rw [if_pos hc] at h
    cases h
    exact B_X11_watchers_41  ⟨_, rfl, rfl, rfl⟩
  · rw [if_neg hc] at h
    obtain ⟨q2, hq, h⟩ := sw_bnd h
    refine B_X11_watchers_14  (FC_X11_acrossFrom (Nat.le_refl _) hq) (Nat.lt_of_lt_of_le (by decide) hd) (fun v s hvs => ?_)
    obtain ⟨hv1, hv2⟩ := hvs; subst hv1; subst hv2
    refine B_X11_watchers_20  (fun hc => ?_) (fun hc => ?_)
    · rw [if_pos hc] at h
      exact SC_X11_watchers_35 hd h6 h
    · rw [if_neg hc] at h
      refine B_X11_watchers_28  ?_
      exact SC_X11_watchers_35 hd h6 h
noncomputable def L_X11_watchers_6 : Nat → sw_St → Int32 → Int32 → Int32 → Option (Int32 × sw_St)
  | 0, _, _, _, _ => none
  | k + 1, σ, x1, x2, x3 => S_X11_watchers_6 (fun σ x1 x2 x3 => L_X11_watchers_6 k σ x1 x2 x3) σ x1 x2 x3
theorem LC_X11_watchers_6 {E : sw_E} {d : Nat} (hd : 2 ≤ d) {p : Int32 × sw_St} : ∀ (k : Nat) (σ : sw_St) (x1 : Int32) (x2 : Int32) (x3 : Int32), L_X11_watchers_6 k σ x1 x2 x3 = some p → sw_W E sw_gM m_X11_watchers d 6 [(0, .ref 0), (1, .int x1), (2, .int x2), (3, .int x3)] [] σ (sw_pI p) := by
  intro k
  induction k with
  | zero => intro σ x1 x2 x3 h; cases h
  | succ k ih => intro σ x1 x2 x3 h; exact SC_X11_watchers_6 hd ih h
noncomputable def F_X11_watchers (σ : sw_St) (x1 : Int32) : Option (Int32 × sw_St) :=
  L_X11_watchers_6 sw_fuel σ x1 ((1 : Int32) <<< (x1 &&& 31)) 0
theorem FC_X11_watchers {E : sw_E} {d : Nat} (hd : 2 ≤ d) {p : Int32 × sw_St} {σ : sw_St} {x1 : Int32} (h : F_X11_watchers σ x1 = some p) : sw_KI E sw_gM m_X11_watchers d [.ref 0, .int x1] σ (fun v s => v = p.1 ∧ s = p.2) := by
  unfold F_X11_watchers at h
  refine sw_K.of (by decide +kernel) rfl (Nat.le_of_ble_eq_true rfl) ?_
  show sw_W E sw_gM m_X11_watchers d 0 [(0, .ref 0), (1, .int x1)] [] σ (sw_pI p)
  refine B_X11_watchers_0  ?_
  exact LC_X11_watchers_6 hd _ _ _ _ _ h
/-! StrayWoolModel.waysGo()V -/
noncomputable def S_X11_waysGo_123 (c123 : sw_St → Int32 → Option (Unit × sw_St)) (σ : sw_St) (x1 : Int32) : Option (Unit × sw_St) :=
  if 512 ≤ x1 then (some ((), σ)) else (if sw_inb x1 512 = true then (if sw_inb x1 512 = true then (c123 (sw_uL σ 42 x1.toNatClampNeg (σ.2.1 43 x1.toNatClampNeg)) (x1 + 1)) else none) else none)
theorem SC_X11_waysGo_123 {E : sw_E} {d : Nat} (hd : 2 ≤ d) {p : Unit × sw_St} {c123 : sw_St → Int32 → Option (Unit × sw_St)} (h123 : ∀ (σ : sw_St) (x1 : Int32), c123 σ x1 = some p → sw_W E sw_gM m_X11_waysGo d 123 [(0, .ref 0), (1, .int x1)] [] σ (sw_pV p)) {σ : sw_St} {x1 : Int32} (h : S_X11_waysGo_123 c123 σ x1 = some p) : sw_W E sw_gM m_X11_waysGo d 123 [(0, .ref 0), (1, .int x1)] [] σ (sw_pV p) := by
  unfold S_X11_waysGo_123 at h
  refine B_X11_waysGo_123  (fun hc => ?_) (fun hc => ?_)
  · rw [if_pos hc] at h
    cases h
    exact B_X11_waysGo_148  ⟨rfl, rfl⟩
  · rw [if_neg hc] at h
    obtain ⟨o1, h⟩ := sw_ifs h
    obtain ⟨o2, h⟩ := sw_ifs h
    refine B_X11_waysGo_130 (sw_inb_sp o1) (sw_inb_sp o2) ?_
    exact h123 _ _ h
noncomputable def L_X11_waysGo_123 : Nat → sw_St → Int32 → Option (Unit × sw_St)
  | 0, _, _ => none
  | k + 1, σ, x1 => S_X11_waysGo_123 (fun σ x1 => L_X11_waysGo_123 k σ x1) σ x1
theorem LC_X11_waysGo_123 {E : sw_E} {d : Nat} (hd : 2 ≤ d) {p : Unit × sw_St} : ∀ (k : Nat) (σ : sw_St) (x1 : Int32), L_X11_waysGo_123 k σ x1 = some p → sw_W E sw_gM m_X11_waysGo d 123 [(0, .ref 0), (1, .int x1)] [] σ (sw_pV p) := by
  intro k
  induction k with
  | zero => intro σ x1 h; cases h
  | succ k ih => intro σ x1 h; exact SC_X11_waysGo_123 hd ih h
noncomputable def S_X11_waysGo_109 (c24 : sw_St → Int32 → Option (Unit × sw_St)) (c34 : sw_St → Int32 → Int32 → Option (Unit × sw_St)) (σ : sw_St) (x1 : Int32) (x2 : Int32) : Option (Unit × sw_St) :=
  c34 σ x1 (x2 + 1)
theorem SC_X11_waysGo_109 {E : sw_E} {d : Nat} (hd : 2 ≤ d) {p : Unit × sw_St} {c24 : sw_St → Int32 → Option (Unit × sw_St)} {c34 : sw_St → Int32 → Int32 → Option (Unit × sw_St)} (h24 : ∀ (σ : sw_St) (x1 : Int32), c24 σ x1 = some p → sw_W E sw_gM m_X11_waysGo d 24 [(0, .ref 0), (1, .int x1)] [] σ (sw_pV p)) (h34 : ∀ (σ : sw_St) (x1 : Int32) (x2 : Int32), c34 σ x1 x2 = some p → sw_W E sw_gM m_X11_waysGo d 34 [(0, .ref 0), (1, .int x1), (2, .int x2)] [] σ (sw_pV p)) {σ : sw_St} {x1 : Int32} {x2 : Int32} (h : S_X11_waysGo_109 c24 c34 σ x1 x2 = some p) : sw_W E sw_gM m_X11_waysGo d 109 [(0, .ref 0), (1, .int x1), (2, .int x2)] [] σ (sw_pV p) := by
  unfold S_X11_waysGo_109 at h
  refine B_X11_waysGo_109  ?_
  exact h34 _ _ _ h
noncomputable def S_X11_waysGo_60 (c24 : sw_St → Int32 → Option (Unit × sw_St)) (c34 : sw_St → Int32 → Int32 → Option (Unit × sw_St)) (c60 : sw_St → Int32 → Int32 → Int32 → Int32 → Option (Unit × sw_St)) (σ : sw_St) (x1 : Int32) (x2 : Int32) (x3 : Int32) (x4 : Int32) : Option (Unit × sw_St) :=
  if 64 ≤ x4 then (S_X11_waysGo_109 c24 c34 σ x1 x2) else (if sw_inb ((64 * x3) + ((((3 * x4) + x2) + 1) - (((3 * x4) + x2) + 1) / 64 * 64)) 512 = true then (if sw_inb ((64 * x1) + x4) 512 = true then (if sw_inb ((64 * x3) + ((((3 * x4) + x2) + 1) - (((3 * x4) + x2) + 1) / 64 * 64)) 512 = true then (c60 (sw_uL σ 43 (((64 * x3) + ((((3 * x4) + x2) + 1) - (((3 * x4) + x2) + 1) / 64 * 64)).toNatClampNeg) ((σ.2.1 43 (((64 * x3) + ((((3 * x4) + x2) + 1) - (((3 * x4) + x2) + 1) / 64 * 64)).toNatClampNeg)) + (σ.2.1 42 (((64 * x1) + x4).toNatClampNeg)))) x1 x2 x3 (x4 + 1)) else none) else none) else none)
theorem SC_X11_waysGo_60 {E : sw_E} {d : Nat} (hd : 2 ≤ d) {p : Unit × sw_St} {c24 : sw_St → Int32 → Option (Unit × sw_St)} {c34 : sw_St → Int32 → Int32 → Option (Unit × sw_St)} {c60 : sw_St → Int32 → Int32 → Int32 → Int32 → Option (Unit × sw_St)} (h24 : ∀ (σ : sw_St) (x1 : Int32), c24 σ x1 = some p → sw_W E sw_gM m_X11_waysGo d 24 [(0, .ref 0), (1, .int x1)] [] σ (sw_pV p)) (h34 : ∀ (σ : sw_St) (x1 : Int32) (x2 : Int32), c34 σ x1 x2 = some p → sw_W E sw_gM m_X11_waysGo d 34 [(0, .ref 0), (1, .int x1), (2, .int x2)] [] σ (sw_pV p)) (h60 : ∀ (σ : sw_St) (x1 : Int32) (x2 : Int32) (x3 : Int32) (x4 : Int32), c60 σ x1 x2 x3 x4 = some p → sw_W E sw_gM m_X11_waysGo d 60 [(0, .ref 0), (1, .int x1), (2, .int x2), (3, .int x3), (4, .int x4)] [] σ (sw_pV p)) {σ : sw_St} {x1 : Int32} {x2 : Int32} {x3 : Int32} {x4 : Int32} (h : S_X11_waysGo_60 c24 c34 c60 σ x1 x2 x3 x4 = some p) : sw_W E sw_gM m_X11_waysGo d 60 [(0, .ref 0), (1, .int x1), (2, .int x2), (3, .int x3), (4, .int x4)] [] σ (sw_pV p) := by
  unfold S_X11_waysGo_60 at h
  refine B_X11_waysGo_60  (fun hc => ?_) (fun hc => ?_)
  · rw [if_pos hc] at h
    exact SC_X11_waysGo_109 hd h24 h34 h
  · rw [if_neg hc] at h
    obtain ⟨o1, h⟩ := sw_ifs h
    obtain ⟨o2, h⟩ := sw_ifs h
    obtain ⟨o3, h⟩ := sw_ifs h
    refine B_X11_waysGo_67 (sw_inb_sp o1) (sw_inb_sp o2) (sw_inb_sp o3) ?_
    exact h60 _ _ _ _ _ h
noncomputable def L_X11_waysGo_60 (c24 : sw_St → Int32 → Option (Unit × sw_St)) (c34 : sw_St → Int32 → Int32 → Option (Unit × sw_St)) : Nat → sw_St → Int32 → Int32 → Int32 → Int32 → Option (Unit × sw_St)
  | 0, _, _, _, _, _ => none
  | k + 1, σ, x1, x2, x3, x4 => S_X11_waysGo_60 c24 c34 (fun σ x1 x2 x3 x4 => L_X11_waysGo_60 c24 c34 k σ x1 x2 x3 x4) σ x1 x2 x3 x4
theorem LC_X11_waysGo_60 {E : sw_E} {d : Nat} (hd : 2 ≤ d) {p : Unit × sw_St} {c24 : sw_St → Int32 → Option (Unit × sw_St)} {c34 : sw_St → Int32 → Int32 → Option (Unit × sw_St)} (h24 : ∀ (σ : sw_St) (x1 : Int32), c24 σ x1 = some p → sw_W E sw_gM m_X11_waysGo d 24 [(0, .ref 0), (1, .int x1)] [] σ (sw_pV p)) (h34 : ∀ (σ : sw_St) (x1 : Int32) (x2 : Int32), c34 σ x1 x2 = some p → sw_W E sw_gM m_X11_waysGo d 34 [(0, .ref 0), (1, .int x1), (2, .int x2)] [] σ (sw_pV p)) : ∀ (k : Nat) (σ : sw_St) (x1 : Int32) (x2 : Int32) (x3 : Int32) (x4 : Int32), L_X11_waysGo_60 c24 c34 k σ x1 x2 x3 x4 = some p → sw_W E sw_gM m_X11_waysGo d 60 [(0, .ref 0), (1, .int x1), (2, .int x2), (3, .int x3), (4, .int x4)] [] σ (sw_pV p) := by
  intro k
  induction k with
  | zero => intro σ x1 x2 x3 x4 h; cases h
  | succ k ih => intro σ x1 x2 x3 x4 h; exact SC_X11_waysGo_60 hd h24 h34 ih h
noncomputable def S_X11_waysGo_34 (c24 : sw_St → Int32 → Option (Unit × sw_St)) (c34 : sw_St → Int32 → Int32 → Option (Unit × sw_St)) (σ : sw_St) (x1 : Int32) (x2 : Int32) : Option (Unit × sw_St) :=
  (F_X11_gapMany σ ).bind fun q1 => if q1.1 ≤ x2 then (c24 q1.2 (x1 + 1)) else ((F_X11_acrossFrom q1.2 x1 x2).bind fun q2 => if q2.1 = (-1) then (S_X11_waysGo_109 c24 c34 q2.2 x1 x2) else (L_X11_waysGo_60 c24 c34 sw_fuel q2.2 x1 x2 q2.1 0))
theorem SC_X11_waysGo_34 {E : sw_E} {d : Nat} (hd : 2 ≤ d) {p : Unit × sw_St} {c24 : sw_St → Int32 → Option (Unit × sw_St)} {c34 : sw_St → Int32 → Int32 → Option (Unit × sw_St)} (h24 : ∀ (σ : sw_St) (x1 : Int32), c24 σ x1 = some p → sw_W E sw_gM m_X11_waysGo d 24 [(0, .ref 0), (1, .int x1)] [] σ (sw_pV p)) (h34 : ∀ (σ : sw_St) (x1 : Int32) (x2 : Int32), c34 σ x1 x2 = some p → sw_W E sw_gM m_X11_waysGo d 34 [(0, .ref 0), (1, .int x1), (2, .int x2)] [] σ (sw_pV p)) {σ : sw_St} {x1 : Int32} {x2 : Int32} (h : S_X11_waysGo_34 c24 c34 σ x1 x2 = some p) : sw_W E sw_gM m_X11_waysGo d 34 [(0, .ref 0), (1, .int x1), (2, .int x2)] [] σ (sw_pV p) := by
  unfold S_X11_waysGo_34 at h
  obtain ⟨q1, hq, h⟩ := sw_bnd h
  refine B_X11_waysGo_34  (FC_X11_gapMany (Nat.le_refl _) hq) (Nat.lt_of_lt_of_le (by decide) hd) (fun v s hvs => ?_)
  obtain ⟨hv1, hv2⟩ := hvs; subst hv1; subst hv2
  refine B_X11_waysGo_39  (fun hc => ?_) (fun hc => ?_)
  · rw [if_pos hc] at h
    refine B_X11_waysGo_115  ?_
    exact h24 _ _ h
  · rw [if_neg hc] at h
    obtain ⟨q2, hq, h⟩ := sw_bnd h
    refine B_X11_waysGo_42  (FC_X11_acrossFrom (Nat.le_refl _) hq) (Nat.lt_of_lt_of_le (by decide) hd) (fun v s hvs => ?_)
    obtain ⟨hv1, hv2⟩ := hvs; subst hv1; subst hv2
    refine B_X11_waysGo_48  (fun hc => ?_) (fun hc => ?_)
    · rw [if_neg hc] at h
      refine B_X11_waysGo_57  ?_
      exact LC_X11_waysGo_60 hd h24 h34 _ _ _ _ _ _ h
    · rw [if_pos hc] at h
      refine B_X11_waysGo_54  ?_
      exact SC_X11_waysGo_109 hd h24 h34 h
noncomputable def L_X11_waysGo_34 (c24 : sw_St → Int32 → Option (Unit × sw_St)) : Nat → sw_St → Int32 → Int32 → Option (Unit × sw_St)
  | 0, _, _, _ => none
  | k + 1, σ, x1, x2 => S_X11_waysGo_34 c24 (fun σ x1 x2 => L_X11_waysGo_34 c24 k σ x1 x2) σ x1 x2
theorem LC_X11_waysGo_34 {E : sw_E} {d : Nat} (hd : 2 ≤ d) {p : Unit × sw_St} {c24 : sw_St → Int32 → Option (Unit × sw_St)} (h24 : ∀ (σ : sw_St) (x1 : Int32), c24 σ x1 = some p → sw_W E sw_gM m_X11_waysGo d 24 [(0, .ref 0), (1, .int x1)] [] σ (sw_pV p)) : ∀ (k : Nat) (σ : sw_St) (x1 : Int32) (x2 : Int32), L_X11_waysGo_34 c24 k σ x1 x2 = some p → sw_W E sw_gM m_X11_waysGo d 34 [(0, .ref 0), (1, .int x1), (2, .int x2)] [] σ (sw_pV p) := by
  intro k
  induction k with
  | zero => intro σ x1 x2 h; cases h
  | succ k ih => intro σ x1 x2 h; exact SC_X11_waysGo_34 hd h24 ih h
noncomputable def S_X11_waysGo_24 (c24 : sw_St → Int32 → Option (Unit × sw_St)) (σ : sw_St) (x1 : Int32) : Option (Unit × sw_St) :=
  (F_X11_fieldMany σ ).bind fun q1 => if q1.1 ≤ x1 then (L_X11_waysGo_123 sw_fuel q1.2 0) else (L_X11_waysGo_34 c24 sw_fuel q1.2 x1 0)
theorem SC_X11_waysGo_24 {E : sw_E} {d : Nat} (hd : 2 ≤ d) {p : Unit × sw_St} {c24 : sw_St → Int32 → Option (Unit × sw_St)} (h24 : ∀ (σ : sw_St) (x1 : Int32), c24 σ x1 = some p → sw_W E sw_gM m_X11_waysGo d 24 [(0, .ref 0), (1, .int x1)] [] σ (sw_pV p)) {σ : sw_St} {x1 : Int32} (h : S_X11_waysGo_24 c24 σ x1 = some p) : sw_W E sw_gM m_X11_waysGo d 24 [(0, .ref 0), (1, .int x1)] [] σ (sw_pV p) := by
  unfold S_X11_waysGo_24 at h
  obtain ⟨q1, hq, h⟩ := sw_bnd h
  refine B_X11_waysGo_24  (FC_X11_fieldMany (Nat.le_refl _) hq) (Nat.lt_of_lt_of_le (by decide) hd) (fun v s hvs => ?_)
  obtain ⟨hv1, hv2⟩ := hvs; subst hv1; subst hv2
  refine B_X11_waysGo_29  (fun hc => ?_) (fun hc => ?_)
  · rw [if_pos hc] at h
    refine B_X11_waysGo_121  ?_
    exact LC_X11_waysGo_123 hd _ _ _ h
  · rw [if_neg hc] at h
    refine B_X11_waysGo_32  ?_
    exact LC_X11_waysGo_34 hd h24 _ _ _ _ h
noncomputable def L_X11_waysGo_24 : Nat → sw_St → Int32 → Option (Unit × sw_St)
  | 0, _, _ => none
  | k + 1, σ, x1 => S_X11_waysGo_24 (fun σ x1 => L_X11_waysGo_24 k σ x1) σ x1
theorem LC_X11_waysGo_24 {E : sw_E} {d : Nat} (hd : 2 ≤ d) {p : Unit × sw_St} : ∀ (k : Nat) (σ : sw_St) (x1 : Int32), L_X11_waysGo_24 k σ x1 = some p → sw_W E sw_gM m_X11_waysGo d 24 [(0, .ref 0), (1, .int x1)] [] σ (sw_pV p) := by
  intro k
  induction k with
  | zero => intro σ x1 h; cases h
  | succ k ih => intro σ x1 h; exact SC_X11_waysGo_24 hd ih h
noncomputable def S_X11_waysGo_2 (c2 : sw_St → Int32 → Option (Unit × sw_St)) (σ : sw_St) (x1 : Int32) : Option (Unit × sw_St) :=
  if 512 ≤ x1 then (L_X11_waysGo_24 sw_fuel σ 0) else (if sw_inb x1 512 = true then (c2 (sw_uL σ 43 x1.toNatClampNeg 0) (x1 + 1)) else none)
theorem SC_X11_waysGo_2 {E : sw_E} {d : Nat} (hd : 2 ≤ d) {p : Unit × sw_St} {c2 : sw_St → Int32 → Option (Unit × sw_St)} (h2 : ∀ (σ : sw_St) (x1 : Int32), c2 σ x1 = some p → sw_W E sw_gM m_X11_waysGo d 2 [(0, .ref 0), (1, .int x1)] [] σ (sw_pV p)) {σ : sw_St} {x1 : Int32} (h : S_X11_waysGo_2 c2 σ x1 = some p) : sw_W E sw_gM m_X11_waysGo d 2 [(0, .ref 0), (1, .int x1)] [] σ (sw_pV p) := by
  unfold S_X11_waysGo_2 at h
  refine B_X11_waysGo_2  (fun hc => ?_) (fun hc => ?_)
  · rw [if_pos hc] at h
    refine B_X11_waysGo_22  ?_
    exact LC_X11_waysGo_24 hd _ _ _ h
  · rw [if_neg hc] at h
    obtain ⟨o1, h⟩ := sw_ifs h
    refine B_X11_waysGo_9 (sw_inb_sp o1) ?_
    exact h2 _ _ h
noncomputable def L_X11_waysGo_2 : Nat → sw_St → Int32 → Option (Unit × sw_St)
  | 0, _, _ => none
  | k + 1, σ, x1 => S_X11_waysGo_2 (fun σ x1 => L_X11_waysGo_2 k σ x1) σ x1
theorem LC_X11_waysGo_2 {E : sw_E} {d : Nat} (hd : 2 ≤ d) {p : Unit × sw_St} : ∀ (k : Nat) (σ : sw_St) (x1 : Int32), L_X11_waysGo_2 k σ x1 = some p → sw_W E sw_gM m_X11_waysGo d 2 [(0, .ref 0), (1, .int x1)] [] σ (sw_pV p) := by
  intro k
  induction k with
  | zero => intro σ x1 h; cases h
  | succ k ih => intro σ x1 h; exact SC_X11_waysGo_2 hd ih h
noncomputable def F_X11_waysGo (σ : sw_St) : Option (Unit × sw_St) :=
  L_X11_waysGo_2 sw_fuel σ 0
theorem FC_X11_waysGo {E : sw_E} {d : Nat} (hd : 2 ≤ d) {p : Unit × sw_St} {σ : sw_St} (h : F_X11_waysGo σ  = some p) : sw_KV E sw_gM m_X11_waysGo d [.ref 0] σ (fun s => s = p.2) := by
  unfold F_X11_waysGo at h
  refine sw_K.of (by decide +kernel) rfl (Nat.le_of_ble_eq_true rfl) ?_
  show sw_W E sw_gM m_X11_waysGo d 0 [(0, .ref 0)] [] σ (sw_pV p)
  refine B_X11_waysGo_0  ?_
  exact LC_X11_waysGo_2 hd _ _ _ h
/-! StrayWoolModel.ways(III)J -/
noncomputable def S_X11_ways_33 (σ : sw_St) : Option (Int64 × sw_St) :=
  some ((-1000000000000000), σ)
theorem SC_X11_ways_33 {E : sw_E} {d : Nat} (hd : 3 ≤ d) {p : Int64 × sw_St} {σ : sw_St} (h : S_X11_ways_33 σ  = some p) : sw_W E sw_gM m_X11_ways d 33 [] [] σ (sw_pL p) := by
  unfold S_X11_ways_33 at h
  cases h
  exact B_X11_ways_33  ⟨_, rfl, rfl, rfl⟩
noncomputable def S_X11_ways_100 (c100 : sw_St → Int32 → Int64 → Int32 → Option (Int64 × sw_St)) (σ : sw_St) (x3 : Int32) (y4 : Int64) (x6 : Int32) : Option (Int64 × sw_St) :=
  (F_X11_fieldMany σ ).bind fun q1 => if q1.1 ≤ x6 then (some (y4, q1.2)) else (if sw_inb ((64 * x6) + x3) 512 = true then (c100 q1.2 x3 (y4 + (q1.2.2.1 42 (((64 * x6) + x3).toNatClampNeg))) (x6 + 1)) else none)
theorem SC_X11_ways_100 {E : sw_E} {d : Nat} (hd : 3 ≤ d) {p : Int64 × sw_St} {c100 : sw_St → Int32 → Int64 → Int32 → Option (Int64 × sw_St)} (h100 : ∀ (σ : sw_St) (x3 : Int32) (y4 : Int64) (x6 : Int32), c100 σ x3 y4 x6 = some p → sw_W E sw_gM m_X11_ways d 100 [(0, .ref 0), (3, .int x3), (4, .long y4), (6, .int x6)] [] σ (sw_pL p)) {σ : sw_St} {x3 : Int32} {y4 : Int64} {x6 : Int32} (h : S_X11_ways_100 c100 σ x3 y4 x6 = some p) : sw_W E sw_gM m_X11_ways d 100 [(0, .ref 0), (3, .int x3), (4, .long y4), (6, .int x6)] [] σ (sw_pL p) := by
  unfold S_X11_ways_100 at h
  obtain ⟨q1, hq, h⟩ := sw_bnd h
  refine B_X11_ways_100  (FC_X11_fieldMany (Nat.le_refl _) hq) (Nat.lt_of_lt_of_le (by decide) hd) (fun v s hvs => ?_)
  obtain ⟨hv1, hv2⟩ := hvs; subst hv1; subst hv2
  refine B_X11_ways_106  (fun hc => ?_) (fun hc => ?_)
  · rw [if_pos hc] at h
    cases h
    exact B_X11_ways_132  ⟨_, rfl, rfl, rfl⟩
  · rw [if_neg hc] at h
    obtain ⟨o2, h⟩ := sw_ifs h
    refine B_X11_ways_109 (sw_inb_sp o2) ?_
    exact h100 _ _ _ _ h
noncomputable def L_X11_ways_100 : Nat → sw_St → Int32 → Int64 → Int32 → Option (Int64 × sw_St)
  | 0, _, _, _, _ => none
  | k + 1, σ, x3, y4, x6 => S_X11_ways_100 (fun σ x3 y4 x6 => L_X11_ways_100 k σ x3 y4 x6) σ x3 y4 x6
theorem LC_X11_ways_100 {E : sw_E} {d : Nat} (hd : 3 ≤ d) {p : Int64 × sw_St} : ∀ (k : Nat) (σ : sw_St) (x3 : Int32) (y4 : Int64) (x6 : Int32), L_X11_ways_100 k σ x3 y4 x6 = some p → sw_W E sw_gM m_X11_ways d 100 [(0, .ref 0), (3, .int x3), (4, .long y4), (6, .int x6)] [] σ (sw_pL p) := by
  intro k
  induction k with
  | zero => intro σ x3 y4 x6 h; cases h
  | succ k ih => intro σ x3 y4 x6 h; exact SC_X11_ways_100 hd ih h
noncomputable def S_X11_ways_78 (c78 : sw_St → Int32 → Int32 → Int32 → Option (Int64 × sw_St)) (σ : sw_St) (x2 : Int32) (x3 : Int32) (x4 : Int32) : Option (Int64 × sw_St) :=
  if x2 ≤ x4 then (L_X11_ways_100 sw_fuel σ x3 0 0) else ((F_X11_waysGo σ ).bind fun q1 => c78 q1.2 x2 x3 (x4 + 1))
theorem SC_X11_ways_78 {E : sw_E} {d : Nat} (hd : 3 ≤ d) {p : Int64 × sw_St} {c78 : sw_St → Int32 → Int32 → Int32 → Option (Int64 × sw_St)} (h78 : ∀ (σ : sw_St) (x2 : Int32) (x3 : Int32) (x4 : Int32), c78 σ x2 x3 x4 = some p → sw_W E sw_gM m_X11_ways d 78 [(0, .ref 0), (2, .int x2), (3, .int x3), (4, .int x4)] [] σ (sw_pL p)) {σ : sw_St} {x2 : Int32} {x3 : Int32} {x4 : Int32} (h : S_X11_ways_78 c78 σ x2 x3 x4 = some p) : sw_W E sw_gM m_X11_ways d 78 [(0, .ref 0), (2, .int x2), (3, .int x3), (4, .int x4)] [] σ (sw_pL p) := by
  unfold S_X11_ways_78 at h
  refine B_X11_ways_78  (fun hc => ?_) (fun hc => ?_)
  · rw [if_pos hc] at h
    refine B_X11_ways_94  ?_
    exact LC_X11_ways_100 hd _ _ _ _ _ h
  · rw [if_neg hc] at h
    obtain ⟨q1, hq, h⟩ := sw_bnd h
    refine B_X11_ways_84  (FC_X11_waysGo (Nat.le_refl _) hq) (Nat.lt_of_lt_of_le (by decide) hd) (fun s hvs => ?_)
    subst hvs
    refine B_X11_ways_88  ?_
    exact h78 _ _ _ _ h
noncomputable def L_X11_ways_78 : Nat → sw_St → Int32 → Int32 → Int32 → Option (Int64 × sw_St)
  | 0, _, _, _, _ => none
  | k + 1, σ, x2, x3, x4 => S_X11_ways_78 (fun σ x2 x3 x4 => L_X11_ways_78 k σ x2 x3 x4) σ x2 x3 x4
theorem LC_X11_ways_78 {E : sw_E} {d : Nat} (hd : 3 ≤ d) {p : Int64 × sw_St} : ∀ (k : Nat) (σ : sw_St) (x2 : Int32) (x3 : Int32) (x4 : Int32), L_X11_ways_78 k σ x2 x3 x4 = some p → sw_W E sw_gM m_X11_ways d 78 [(0, .ref 0), (2, .int x2), (3, .int x3), (4, .int x4)] [] σ (sw_pL p) := by
  intro k
  induction k with
  | zero => intro σ x2 x3 x4 h; cases h
  | succ k ih => intro σ x2 x3 x4 h; exact SC_X11_ways_78 hd ih h
noncomputable def S_X11_ways_68 (c40 : sw_St → Int32 → Int32 → Int32 → Int32 → Option (Int64 × sw_St)) (σ : sw_St) (x1 : Int32) (x2 : Int32) (x3 : Int32) (x4 : Int32) (sy0 : Int64) (sx1 : Int32) : Option (Int64 × sw_St) :=
  if sw_inb sx1 512 = true then (c40 (sw_uL σ 42 sx1.toNatClampNeg sy0) x1 x2 x3 (x4 + 1)) else none
theorem SC_X11_ways_68 {E : sw_E} {d : Nat} (hd : 3 ≤ d) {p : Int64 × sw_St} {c40 : sw_St → Int32 → Int32 → Int32 → Int32 → Option (Int64 × sw_St)} (h40 : ∀ (σ : sw_St) (x1 : Int32) (x2 : Int32) (x3 : Int32) (x4 : Int32), c40 σ x1 x2 x3 x4 = some p → sw_W E sw_gM m_X11_ways d 40 [(0, .ref 0), (1, .int x1), (2, .int x2), (3, .int x3), (4, .int x4)] [] σ (sw_pL p)) {σ : sw_St} {x1 : Int32} {x2 : Int32} {x3 : Int32} {x4 : Int32} {sy0 : Int64} {sx1 : Int32} (h : S_X11_ways_68 c40 σ x1 x2 x3 x4 sy0 sx1 = some p) : sw_W E sw_gM m_X11_ways d 68 [(0, .ref 0), (1, .int x1), (2, .int x2), (3, .int x3), (4, .int x4)] [.long sy0, .int sx1, .ref 42] σ (sw_pL p) := by
  unfold S_X11_ways_68 at h
  obtain ⟨o1, h⟩ := sw_ifs h
  refine B_X11_ways_68 (sw_inb_sp o1) ?_
  exact h40 _ _ _ _ _ h
noncomputable def S_X11_ways_40 (c40 : sw_St → Int32 → Int32 → Int32 → Int32 → Option (Int64 × sw_St)) (σ : sw_St) (x1 : Int32) (x2 : Int32) (x3 : Int32) (x4 : Int32) : Option (Int64 × sw_St) :=
  if 512 ≤ x4 then (L_X11_ways_78 sw_fuel σ x2 x3 0) else (if x4 = (64 * x1) then (S_X11_ways_68 c40 σ x1 x2 x3 x4 1 x4) else (S_X11_ways_68 c40 σ x1 x2 x3 x4 0 x4))
theorem SC_X11_ways_40 {E : sw_E} {d : Nat} (hd : 3 ≤ d) {p : Int64 × sw_St} {c40 : sw_St → Int32 → Int32 → Int32 → Int32 → Option (Int64 × sw_St)} (h40 : ∀ (σ : sw_St) (x1 : Int32) (x2 : Int32) (x3 : Int32) (x4 : Int32), c40 σ x1 x2 x3 x4 = some p → sw_W E sw_gM m_X11_ways d 40 [(0, .ref 0), (1, .int x1), (2, .int x2), (3, .int x3), (4, .int x4)] [] σ (sw_pL p)) {σ : sw_St} {x1 : Int32} {x2 : Int32} {x3 : Int32} {x4 : Int32} (h : S_X11_ways_40 c40 σ x1 x2 x3 x4 = some p) : sw_W E sw_gM m_X11_ways d 40 [(0, .ref 0), (1, .int x1), (2, .int x2), (3, .int x3), (4, .int x4)] [] σ (sw_pL p) := by
  unfold S_X11_ways_40 at h
  refine B_X11_ways_40  (fun hc => ?_) (fun hc => ?_)
  · rw [if_pos hc] at h
    refine B_X11_ways_75  ?_
    exact LC_X11_ways_78 hd _ _ _ _ _ h
  · rw [if_neg hc] at h
    refine B_X11_ways_48  (fun hc => ?_) (fun hc => ?_)
    · rw [if_neg hc] at h
      refine B_X11_ways_67  ?_
      exact SC_X11_ways_68 hd h40 h
    · rw [if_pos hc] at h
      refine B_X11_ways_63  ?_
      exact SC_X11_ways_68 hd h40 h
noncomputable def L_X11_ways_40 : Nat → sw_St → Int32 → Int32 → Int32 → Int32 → Option (Int64 × sw_St)
  | 0, _, _, _, _, _ => none
  | k + 1, σ, x1, x2, x3, x4 => S_X11_ways_40 (fun σ x1 x2 x3 x4 => L_X11_ways_40 k σ x1 x2 x3 x4) σ x1 x2 x3 x4
theorem LC_X11_ways_40 {E : sw_E} {d : Nat} (hd : 3 ≤ d) {p : Int64 × sw_St} : ∀ (k : Nat) (σ : sw_St) (x1 : Int32) (x2 : Int32) (x3 : Int32) (x4 : Int32), L_X11_ways_40 k σ x1 x2 x3 x4 = some p → sw_W E sw_gM m_X11_ways d 40 [(0, .ref 0), (1, .int x1), (2, .int x2), (3, .int x3), (4, .int x4)] [] σ (sw_pL p) := by
  intro k
  induction k with
  | zero => intro σ x1 x2 x3 x4 h; cases h
  | succ k ih => intro σ x1 x2 x3 x4 h; exact SC_X11_ways_40 hd ih h
noncomputable def F_X11_ways (σ : sw_St) (x1 : Int32) (x2 : Int32) (x3 : Int32) : Option (Int64 × sw_St) :=
  (F_X11_isField σ x1.toInt64).bind fun q1 => if q1.1 = 0 then (S_X11_ways_33 q1.2 ) else ((F_X11_isIn q1.2 x2.toInt64 0 12).bind fun q2 => if q2.1 = 0 then (S_X11_ways_33 q2.2 ) else ((F_X11_isIn q2.2 x3.toInt64 0 63).bind fun q3 => if q3.1 = 0 then (S_X11_ways_33 q3.2 ) else (L_X11_ways_40 sw_fuel q3.2 x1 x2 x3 0)))
theorem FC_X11_ways {E : sw_E} {d : Nat} (hd : 3 ≤ d) {p : Int64 × sw_St} {σ : sw_St} {x1 : Int32} {x2 : Int32} {x3 : Int32} (h : F_X11_ways σ x1 x2 x3 = some p) : sw_KL E sw_gM m_X11_ways d [.ref 0, .int x1, .int x2, .int x3] σ (fun v s => v = p.1 ∧ s = p.2) := by
  unfold F_X11_ways at h
  refine sw_K.of (by decide +kernel) rfl (Nat.le_of_ble_eq_true rfl) ?_
  show sw_W E sw_gM m_X11_ways d 0 [(0, .ref 0), (1, .int x1), (2, .int x2), (3, .int x3)] [] σ (sw_pL p)
  obtain ⟨q1, hq, h⟩ := sw_bnd h
  refine B_X11_ways_0  (FC_X11_isField (Nat.le_refl _) hq) (Nat.lt_of_lt_of_le (by decide) hd) (fun v s hvs => ?_)
  obtain ⟨hv1, hv2⟩ := hvs; subst hv1; subst hv2
  refine B_X11_ways_6  (fun hc => ?_) (fun hc => ?_)
  · rw [if_pos hc] at h
    exact SC_X11_ways_33 hd h
  · rw [if_neg hc] at h
    obtain ⟨q2, hq, h⟩ := sw_bnd h
    refine B_X11_ways_9  (FC_X11_isIn (Nat.le_refl _) hq) (Nat.lt_of_lt_of_le (by decide) hd) (fun v s hvs => ?_)
    obtain ⟨hv1, hv2⟩ := hvs; subst hv1; subst hv2
    refine B_X11_ways_18  (fun hc => ?_) (fun hc => ?_)
    · rw [if_pos hc] at h
      exact SC_X11_ways_33 hd h
    · rw [if_neg hc] at h
      obtain ⟨q3, hq, h⟩ := sw_bnd h
      refine B_X11_ways_21  (FC_X11_isIn (Nat.le_refl _) hq) (Nat.lt_of_lt_of_le (by decide) hd) (fun v s hvs => ?_)
      obtain ⟨hv1, hv2⟩ := hvs; subst hv1; subst hv2
      refine B_X11_ways_30  (fun hc => ?_) (fun hc => ?_)
      · rw [if_neg hc] at h
        refine B_X11_ways_37  ?_
        exact LC_X11_ways_40 hd _ _ _ _ _ _ h
      · rw [if_pos hc] at h
        exact SC_X11_ways_33 hd h

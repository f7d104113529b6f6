/-! StrayWool.octet(I)I -/
noncomputable def S_X10_octet_32 (σ : sw_St) (sx0 : Int32) : Option (Int32 × sw_St) :=
  some (sx0, σ)
theorem SC_X10_octet_32 {E : sw_E} {d : Nat} (hd : 0 ≤ d) {p : Int32 × sw_St} {σ : sw_St} {sx0 : Int32} (h : S_X10_octet_32 σ sx0 = some p) : sw_W E sw_gX m_X10_octet d 32 [] [.int sx0] σ (sw_pI p) := by
  unfold S_X10_octet_32 at h
  cases h
  exact B_X10_octet_32  ⟨_, rfl, rfl, rfl⟩
noncomputable def S_X10_octet_15 (σ : sw_St) : Option (Int32 × sw_St) :=
  S_X10_octet_32 σ (-1)
theorem SC_X10_octet_15 {E : sw_E} {d : Nat} (hd : 0 ≤ d) {p : Int32 × sw_St} {σ : sw_St} (h : S_X10_octet_15 σ  = some p) : sw_W E sw_gX m_X10_octet d 15 [] [] σ (sw_pI p) := by
  unfold S_X10_octet_15 at h
  refine B_X10_octet_15  ?_
  exact SC_X10_octet_32 hd h
noncomputable def F_X10_octet (σ : sw_St) (x1 : Int32) : Option (Int32 × sw_St) :=
  if x1 < 0 then (S_X10_octet_15 σ ) else (if x1 < (σ.1 224 1) then (if sw_inb x1 94 = true then (S_X10_octet_32 σ ((σ.1 225 x1.toNatClampNeg) &&& 255)) else none) else (S_X10_octet_15 σ ))
theorem FC_X10_octet {E : sw_E} {d : Nat} (hd : 0 ≤ d) {p : Int32 × sw_St} {σ : sw_St} {x1 : Int32} (h : F_X10_octet σ x1 = some p) : sw_KI E sw_gX m_X10_octet d [.ref 0, .int x1] σ (fun v s => v = p.1 ∧ s = p.2) := by
  unfold F_X10_octet at h
  refine sw_K.of (by decide +kernel) rfl (Nat.le_of_ble_eq_true rfl) ?_
  show sw_W E sw_gX m_X10_octet d 0 [(0, .ref 0), (1, .int x1)] [] σ (sw_pI p)
  refine B_X10_octet_0  (fun hc => ?_) (fun hc => ?_)
  · rw [if_pos hc] at h
    exact SC_X10_octet_15 hd h
  · rw [if_neg hc] at h
    refine B_X10_octet_4  (fun hc => ?_) (fun hc => ?_)
    · rw [if_pos hc] at h
      obtain ⟨o1, h⟩ := sw_ifs h
      refine B_X10_octet_19 (sw_inb_sp o1) ?_
      exact SC_X10_octet_32 hd h
    · rw [if_neg hc] at h
      exact SC_X10_octet_15 hd h
/-! StrayWool.status(I)I -/
noncomputable def S_X10_status_20 (σ : sw_St) (sx0 : Int32) : Option (Int32 × sw_St) :=
  some (sx0, σ)
theorem SC_X10_status_20 {E : sw_E} {d : Nat} (hd : 0 ≤ d) {p : Int32 × sw_St} {σ : sw_St} {sx0 : Int32} (h : S_X10_status_20 σ sx0 = some p) : sw_W E sw_gX m_X10_status d 20 [] [.int sx0] σ (sw_pI p) := by
  unfold S_X10_status_20 at h
  cases h
  exact B_X10_status_20  ⟨_, rfl, rfl, rfl⟩
noncomputable def S_X10_status_10 (σ : sw_St) : Option (Int32 × sw_St) :=
  S_X10_status_20 σ (-1)
theorem SC_X10_status_10 {E : sw_E} {d : Nat} (hd : 0 ≤ d) {p : Int32 × sw_St} {σ : sw_St} (h : S_X10_status_10 σ  = some p) : sw_W E sw_gX m_X10_status d 10 [] [] σ (sw_pI p) := by
  unfold S_X10_status_10 at h
  refine B_X10_status_10  ?_
  exact SC_X10_status_20 hd h
noncomputable def F_X10_status (σ : sw_St) (x1 : Int32) : Option (Int32 × sw_St) :=
  if x1 < 0 then (S_X10_status_10 σ ) else (if x1 < 6 then (if sw_inb x1 6 = true then (S_X10_status_20 σ (σ.1 226 x1.toNatClampNeg)) else none) else (S_X10_status_10 σ ))
theorem FC_X10_status {E : sw_E} {d : Nat} (hd : 0 ≤ d) {p : Int32 × sw_St} {σ : sw_St} {x1 : Int32} (h : F_X10_status σ x1 = some p) : sw_KI E sw_gX m_X10_status d [.ref 0, .int x1] σ (fun v s => v = p.1 ∧ s = p.2) := by
  unfold F_X10_status at h
  refine sw_K.of (by decide +kernel) rfl (Nat.le_of_ble_eq_true rfl) ?_
  show sw_W E sw_gX m_X10_status d 0 [(0, .ref 0), (1, .int x1)] [] σ (sw_pI p)
  refine B_X10_status_0  (fun hc => ?_) (fun hc => ?_)
  · rw [if_pos hc] at h
    exact SC_X10_status_10 hd h
  · rw [if_neg hc] at h
    refine B_X10_status_4  (fun hc => ?_) (fun hc => ?_)
    · rw [if_pos hc] at h
      obtain ⟨o1, h⟩ := sw_ifs h
      refine B_X10_status_14 (sw_inb_sp o1) ?_
      exact SC_X10_status_20 hd h
    · rw [if_neg hc] at h
      exact SC_X10_status_10 hd h
/-! StrayWool.refuse(I)I -/
noncomputable def F_X10_refuse (σ : sw_St) (x1 : Int32) : Option (Int32 × sw_St) :=
  if sw_inb x1 6 = true then (if sw_inb x1 6 = true then (some ((-1), (sw_uI σ 226 x1.toNatClampNeg ((σ.1 226 x1.toNatClampNeg) + 1)))) else none) else none
theorem FC_X10_refuse {E : sw_E} {d : Nat} (hd : 0 ≤ d) {p : Int32 × sw_St} {σ : sw_St} {x1 : Int32} (h : F_X10_refuse σ x1 = some p) : sw_KI E sw_gX m_X10_refuse d [.ref 0, .int x1] σ (fun v s => v = p.1 ∧ s = p.2) := by
  unfold F_X10_refuse at h
  refine sw_K.of (by decide +kernel) rfl (Nat.le_of_ble_eq_true rfl) ?_
  show sw_W E sw_gX m_X10_refuse d 0 [(0, .ref 0), (1, .int x1)] [] σ (sw_pI p)
  obtain ⟨o1, h⟩ := sw_ifs h
  obtain ⟨o2, h⟩ := sw_ifs h
  cases h
  exact B_X10_refuse_0 (sw_inb_sp o1) (sw_inb_sp o2) ⟨_, rfl, rfl, rfl⟩
/-! StrayWool.putBytes(I)V -/
noncomputable def S_X10_putBytes_46 (σ : sw_St) : Option (Unit × sw_St) :=
  some ((), σ)
theorem SC_X10_putBytes_46 {E : sw_E} {d : Nat} (hd : 0 ≤ d) {p : Unit × sw_St} {σ : sw_St} (h : S_X10_putBytes_46 σ  = some p) : sw_W E sw_gX m_X10_putBytes d 46 [] [] σ (sw_pV p) := by
  unfold S_X10_putBytes_46 at h
  cases h
  exact B_X10_putBytes_46  ⟨rfl, rfl⟩
noncomputable def S_X10_putBytes_3 (c3 : sw_St → Int32 → Int32 → Option (Unit × sw_St)) (σ : sw_St) (x1 : Int32) (x2 : Int32) : Option (Unit × sw_St) :=
  if x2 < 0 then (S_X10_putBytes_46 σ ) else (if 1600 ≤ (σ.1 0 1) then (S_X10_putBytes_46 σ ) else (if sw_inb (σ.1 0 1) 1600 = true then (c3 (sw_uI (sw_uI σ 1 ((σ.1 0 1).toNatClampNeg) (((x1 >>> (x2 &&& 31)).toInt8.toInt32).toInt8.toInt32)) 0 1 ((σ.1 0 1) + 1)) x1 (x2 + (-8))) else none))
theorem SC_X10_putBytes_3 {E : sw_E} {d : Nat} (hd : 0 ≤ d) {p : Unit × sw_St} {c3 : sw_St → Int32 → Int32 → Option (Unit × sw_St)} (h3 : ∀ (σ : sw_St) (x1 : Int32) (x2 : Int32), c3 σ x1 x2 = some p → sw_W E sw_gX m_X10_putBytes d 3 [(0, .ref 0), (1, .int x1), (2, .int x2)] [] σ (sw_pV p)) {σ : sw_St} {x1 : Int32} {x2 : Int32} (h : S_X10_putBytes_3 c3 σ x1 x2 = some p) : sw_W E sw_gX m_X10_putBytes d 3 [(0, .ref 0), (1, .int x1), (2, .int x2)] [] σ (sw_pV p) := by
  unfold S_X10_putBytes_3 at h
  refine B_X10_putBytes_3  (fun hc => ?_) (fun hc => ?_)
  · rw [if_pos hc] at h
    exact SC_X10_putBytes_46 hd h
  · rw [if_neg hc] at h
    refine B_X10_putBytes_7  (fun hc => ?_) (fun hc => ?_)
    · rw [if_pos hc] at h
      exact SC_X10_putBytes_46 hd h
    · rw [if_neg hc] at h
      obtain ⟨o1, h⟩ := sw_ifs h
      refine B_X10_putBytes_17 (sw_inb_sp o1) ?_
      exact h3 _ _ _ h
noncomputable def L_X10_putBytes_3 : Nat → sw_St → Int32 → Int32 → Option (Unit × sw_St)
  | 0, _, _, _ => none
  | k + 1, σ, x1, x2 => S_X10_putBytes_3 (fun σ x1 x2 => L_X10_putBytes_3 k σ x1 x2) σ x1 x2
theorem LC_X10_putBytes_3 {E : sw_E} {d : Nat} (hd : 0 ≤ d) {p : Unit × sw_St} : ∀ (k : Nat) (σ : sw_St) (x1 : Int32) (x2 : Int32), L_X10_putBytes_3 k σ x1 x2 = some p → sw_W E sw_gX m_X10_putBytes d 3 [(0, .ref 0), (1, .int x1), (2, .int x2)] [] σ (sw_pV p) := by
  intro k
  induction k with
  | zero => intro σ x1 x2 h; cases h
  | succ k ih => intro σ x1 x2 h; exact SC_X10_putBytes_3 hd ih h
noncomputable def F_X10_putBytes (σ : sw_St) (x1 : Int32) : Option (Unit × sw_St) :=
  L_X10_putBytes_3 sw_fuel σ x1 24
theorem FC_X10_putBytes {E : sw_E} {d : Nat} (hd : 0 ≤ d) {p : Unit × sw_St} {σ : sw_St} {x1 : Int32} (h : F_X10_putBytes σ x1 = some p) : sw_KV E sw_gX m_X10_putBytes d [.ref 0, .int x1] σ (fun s => s = p.2) := by
  unfold F_X10_putBytes at h
  refine sw_K.of (by decide +kernel) rfl (Nat.le_of_ble_eq_true rfl) ?_
  show sw_W E sw_gX m_X10_putBytes d 0 [(0, .ref 0), (1, .int x1)] [] σ (sw_pV p)
  refine B_X10_putBytes_0  ?_
  exact LC_X10_putBytes_3 hd _ _ _ _ h
/-! StrayWool.takeTape()I -/
noncomputable def F_X10_takeTape (σ : sw_St) : Option (Int32 × sw_St) :=
  some (σ.1 0 1, (sw_uI σ 0 1 0))
theorem FC_X10_takeTape {E : sw_E} {d : Nat} (hd : 0 ≤ d) {p : Int32 × sw_St} {σ : sw_St} (h : F_X10_takeTape σ  = some p) : sw_KI E sw_gX m_X10_takeTape d [.ref 0] σ (fun v s => v = p.1 ∧ s = p.2) := by
  unfold F_X10_takeTape at h
  refine sw_K.of (by decide +kernel) rfl (Nat.le_of_ble_eq_true rfl) ?_
  show sw_W E sw_gX m_X10_takeTape d 0 [(0, .ref 0)] [] σ (sw_pI p)
  cases h
  exact B_X10_takeTape_0  ⟨_, rfl, rfl, rfl⟩
/-! StrayWool.isField(I)Z -/
noncomputable def S_X10_isField_23 (σ : sw_St) (sx0 : Int32) : Option (Int32 × sw_St) :=
  if sx0 = 0 ∨ sx0 = 1 then some (sx0, σ) else none
theorem SC_X10_isField_23 {E : sw_E} {d : Nat} (hd : 0 ≤ d) {p : Int32 × sw_St} {σ : sw_St} {sx0 : Int32} (h : S_X10_isField_23 σ sx0 = some p) : sw_W E sw_gX m_X10_isField d 23 [] [.int sx0] σ (sw_pI p) := by
  unfold S_X10_isField_23 at h
  obtain ⟨hz, h⟩ := sw_ifs h
  cases h
  exact B_X10_isField_23  hz ⟨_, rfl, rfl, rfl⟩
noncomputable def S_X10_isField_22 (σ : sw_St) : Option (Int32 × sw_St) :=
  S_X10_isField_23 σ 0
theorem SC_X10_isField_22 {E : sw_E} {d : Nat} (hd : 0 ≤ d) {p : Int32 × sw_St} {σ : sw_St} (h : S_X10_isField_22 σ  = some p) : sw_W E sw_gX m_X10_isField d 22 [] [] σ (sw_pI p) := by
  unfold S_X10_isField_22 at h
  refine B_X10_isField_22  ?_
  exact SC_X10_isField_23 hd h
noncomputable def F_X10_isField (σ : sw_St) (x1 : Int32) : Option (Int32 × sw_St) :=
  if x1 < 0 then (S_X10_isField_22 σ ) else ((σ.2.2 33 0).bind fun w1 => (if sw_isO sw_gX w1 9 = true then (if (σ.1 w1 1) ≤ x1 then (S_X10_isField_22 σ ) else (S_X10_isField_23 σ 1)) else none))
theorem FC_X10_isField {E : sw_E} {d : Nat} (hd : 0 ≤ d) {p : Int32 × sw_St} {σ : sw_St} {x1 : Int32} (h : F_X10_isField σ x1 = some p) : sw_KI E sw_gX m_X10_isField d [.ref 0, .int x1] σ (fun v s => v = p.1 ∧ s = p.2) := by
  unfold F_X10_isField at h
  refine sw_K.of (by decide +kernel) rfl (Nat.le_of_ble_eq_true rfl) ?_
  show sw_W E sw_gX m_X10_isField d 0 [(0, .ref 0), (1, .int x1)] [] σ (sw_pI p)
  refine B_X10_isField_0  (fun hc => ?_) (fun hc => ?_)
  · rw [if_pos hc] at h
    exact SC_X10_isField_22 hd h
  · rw [if_neg hc] at h
    obtain ⟨w1, ow1, h⟩ := sw_bnd h
    obtain ⟨o2, h⟩ := sw_ifs h
    refine B_X10_isField_4 ow1 o2 (fun hc => ?_) (fun hc => ?_)
    · rw [if_pos hc] at h
      exact SC_X10_isField_22 hd h
    · rw [if_neg hc] at h
      refine B_X10_isField_18  ?_
      exact SC_X10_isField_23 hd h
/-! StrayWool.isGap(I)Z -/
noncomputable def S_X10_isGap_23 (σ : sw_St) (sx0 : Int32) : Option (Int32 × sw_St) :=
  if sx0 = 0 ∨ sx0 = 1 then some (sx0, σ) else none
theorem SC_X10_isGap_23 {E : sw_E} {d : Nat} (hd : 0 ≤ d) {p : Int32 × sw_St} {σ : sw_St} {sx0 : Int32} (h : S_X10_isGap_23 σ sx0 = some p) : sw_W E sw_gX m_X10_isGap d 23 [] [.int sx0] σ (sw_pI p) := by
  unfold S_X10_isGap_23 at h
  obtain ⟨hz, h⟩ := sw_ifs h
  cases h
  exact B_X10_isGap_23  hz ⟨_, rfl, rfl, rfl⟩
noncomputable def S_X10_isGap_22 (σ : sw_St) : Option (Int32 × sw_St) :=
  S_X10_isGap_23 σ 0
theorem SC_X10_isGap_22 {E : sw_E} {d : Nat} (hd : 0 ≤ d) {p : Int32 × sw_St} {σ : sw_St} (h : S_X10_isGap_22 σ  = some p) : sw_W E sw_gX m_X10_isGap d 22 [] [] σ (sw_pI p) := by
  unfold S_X10_isGap_22 at h
  refine B_X10_isGap_22  ?_
  exact SC_X10_isGap_23 hd h
noncomputable def F_X10_isGap (σ : sw_St) (x1 : Int32) : Option (Int32 × sw_St) :=
  if x1 < 0 then (S_X10_isGap_22 σ ) else ((σ.2.2 33 0).bind fun w1 => (if sw_isO sw_gX w1 9 = true then (if (σ.1 w1 2) ≤ x1 then (S_X10_isGap_22 σ ) else (S_X10_isGap_23 σ 1)) else none))
theorem FC_X10_isGap {E : sw_E} {d : Nat} (hd : 0 ≤ d) {p : Int32 × sw_St} {σ : sw_St} {x1 : Int32} (h : F_X10_isGap σ x1 = some p) : sw_KI E sw_gX m_X10_isGap d [.ref 0, .int x1] σ (fun v s => v = p.1 ∧ s = p.2) := by
  unfold F_X10_isGap at h
  refine sw_K.of (by decide +kernel) rfl (Nat.le_of_ble_eq_true rfl) ?_
  show sw_W E sw_gX m_X10_isGap d 0 [(0, .ref 0), (1, .int x1)] [] σ (sw_pI p)
  refine B_X10_isGap_0  (fun hc => ?_) (fun hc => ?_)
  · rw [if_pos hc] at h
    exact SC_X10_isGap_22 hd h
  · rw [if_neg hc] at h
    obtain ⟨w1, ow1, h⟩ := sw_bnd h
    obtain ⟨o2, h⟩ := sw_ifs h
    refine B_X10_isGap_4 ow1 o2 (fun hc => ?_) (fun hc => ?_)
    · rw [if_pos hc] at h
      exact SC_X10_isGap_22 hd h
    · rw [if_neg hc] at h
      refine B_X10_isGap_18  ?_
      exact SC_X10_isGap_23 hd h
/-! StrayWool.isSheep(I)Z -/
noncomputable def S_X10_isSheep_23 (σ : sw_St) (sx0 : Int32) : Option (Int32 × sw_St) :=
  if sx0 = 0 ∨ sx0 = 1 then some (sx0, σ) else none
theorem SC_X10_isSheep_23 {E : sw_E} {d : Nat} (hd : 0 ≤ d) {p : Int32 × sw_St} {σ : sw_St} {sx0 : Int32} (h : S_X10_isSheep_23 σ sx0 = some p) : sw_W E sw_gX m_X10_isSheep d 23 [] [.int sx0] σ (sw_pI p) := by
  unfold S_X10_isSheep_23 at h
  obtain ⟨hz, h⟩ := sw_ifs h
  cases h
  exact B_X10_isSheep_23  hz ⟨_, rfl, rfl, rfl⟩
noncomputable def S_X10_isSheep_22 (σ : sw_St) : Option (Int32 × sw_St) :=
  S_X10_isSheep_23 σ 0
theorem SC_X10_isSheep_22 {E : sw_E} {d : Nat} (hd : 0 ≤ d) {p : Int32 × sw_St} {σ : sw_St} (h : S_X10_isSheep_22 σ  = some p) : sw_W E sw_gX m_X10_isSheep d 22 [] [] σ (sw_pI p) := by
  unfold S_X10_isSheep_22 at h
  refine B_X10_isSheep_22  ?_
  exact SC_X10_isSheep_23 hd h
noncomputable def F_X10_isSheep (σ : sw_St) (x1 : Int32) : Option (Int32 × sw_St) :=
  if x1 < 0 then (S_X10_isSheep_22 σ ) else ((σ.2.2 33 0).bind fun w1 => (if sw_isO sw_gX w1 9 = true then (if (σ.1 w1 3) ≤ x1 then (S_X10_isSheep_22 σ ) else (S_X10_isSheep_23 σ 1)) else none))
theorem FC_X10_isSheep {E : sw_E} {d : Nat} (hd : 0 ≤ d) {p : Int32 × sw_St} {σ : sw_St} {x1 : Int32} (h : F_X10_isSheep σ x1 = some p) : sw_KI E sw_gX m_X10_isSheep d [.ref 0, .int x1] σ (fun v s => v = p.1 ∧ s = p.2) := by
  unfold F_X10_isSheep at h
  refine sw_K.of (by decide +kernel) rfl (Nat.le_of_ble_eq_true rfl) ?_
  show sw_W E sw_gX m_X10_isSheep d 0 [(0, .ref 0), (1, .int x1)] [] σ (sw_pI p)
  refine B_X10_isSheep_0  (fun hc => ?_) (fun hc => ?_)
  · rw [if_pos hc] at h
    exact SC_X10_isSheep_22 hd h
  · rw [if_neg hc] at h
    obtain ⟨w1, ow1, h⟩ := sw_bnd h
    obtain ⟨o2, h⟩ := sw_ifs h
    refine B_X10_isSheep_4 ow1 o2 (fun hc => ?_) (fun hc => ?_)
    · rw [if_pos hc] at h
      exact SC_X10_isSheep_22 hd h
    · rw [if_neg hc] at h
      refine B_X10_isSheep_18  ?_
      exact SC_X10_isSheep_23 hd h
/-! StrayWool.canCome(II)Z -/
noncomputable def S_X10_canCome_29 (σ : sw_St) (sx0 : Int32) : Option (Int32 × sw_St) :=
  if sx0 = 0 ∨ sx0 = 1 then some (sx0, σ) else none
theorem SC_X10_canCome_29 {E : sw_E} {d : Nat} (hd : 0 ≤ d) {p : Int32 × sw_St} {σ : sw_St} {sx0 : Int32} (h : S_X10_canCome_29 σ sx0 = some p) : sw_W E sw_gX m_X10_canCome d 29 [] [.int sx0] σ (sw_pI p) := by
  unfold S_X10_canCome_29 at h
  obtain ⟨hz, h⟩ := sw_ifs h
  cases h
  exact B_X10_canCome_29  hz ⟨_, rfl, rfl, rfl⟩
noncomputable def S_X10_canCome_28 (σ : sw_St) : Option (Int32 × sw_St) :=
  S_X10_canCome_29 σ 0
theorem SC_X10_canCome_28 {E : sw_E} {d : Nat} (hd : 0 ≤ d) {p : Int32 × sw_St} {σ : sw_St} (h : S_X10_canCome_28 σ  = some p) : sw_W E sw_gX m_X10_canCome d 28 [] [] σ (sw_pI p) := by
  unfold S_X10_canCome_28 at h
  refine B_X10_canCome_28  ?_
  exact SC_X10_canCome_29 hd h
noncomputable def F_X10_canCome (σ : sw_St) (x1 : Int32) (x2 : Int32) : Option (Int32 × sw_St) :=
  if x1 < 0 then (S_X10_canCome_28 σ ) else (if x2 < x1 then (S_X10_canCome_28 σ ) else (if 999 < ((σ.1 38 0) + x1) then (S_X10_canCome_28 σ ) else (S_X10_canCome_29 σ 1)))
theorem FC_X10_canCome {E : sw_E} {d : Nat} (hd : 0 ≤ d) {p : Int32 × sw_St} {σ : sw_St} {x1 : Int32} {x2 : Int32} (h : F_X10_canCome σ x1 x2 = some p) : sw_KI E sw_gX m_X10_canCome d [.ref 0, .int x1, .int x2] σ (fun v s => v = p.1 ∧ s = p.2) := by
  unfold F_X10_canCome at h
  refine sw_K.of (by decide +kernel) rfl (Nat.le_of_ble_eq_true rfl) ?_
  show sw_W E sw_gX m_X10_canCome d 0 [(0, .ref 0), (1, .int x1), (2, .int x2)] [] σ (sw_pI p)
  refine B_X10_canCome_0  (fun hc => ?_) (fun hc => ?_)
  · rw [if_pos hc] at h
    exact SC_X10_canCome_28 hd h
  · rw [if_neg hc] at h
    refine B_X10_canCome_4  (fun hc => ?_) (fun hc => ?_)
    · rw [if_pos hc] at h
      exact SC_X10_canCome_28 hd h
    · rw [if_neg hc] at h
      refine B_X10_canCome_9  (fun hc => ?_) (fun hc => ?_)
      · rw [if_pos hc] at h
        exact SC_X10_canCome_28 hd h
      · rw [if_neg hc] at h
        refine B_X10_canCome_24  ?_
        exact SC_X10_canCome_29 hd h
/-! StrayWool.draw(I)I -/
noncomputable def S_X10_draw_39 (σ : sw_St) (sx0 : Int32) : Option (Int32 × sw_St) :=
  some (sx0, σ)
theorem SC_X10_draw_39 {E : sw_E} {d : Nat} (hd : 0 ≤ d) {p : Int32 × sw_St} {σ : sw_St} {sx0 : Int32} (h : S_X10_draw_39 σ sx0 = some p) : sw_W E sw_gX m_X10_draw d 39 [] [.int sx0] σ (sw_pI p) := by
  unfold S_X10_draw_39 at h
  cases h
  exact B_X10_draw_39  ⟨_, rfl, rfl, rfl⟩
noncomputable def S_X10_draw_38 (σ : sw_St) : Option (Int32 × sw_St) :=
  S_X10_draw_39 σ 0
theorem SC_X10_draw_38 {E : sw_E} {d : Nat} (hd : 0 ≤ d) {p : Int32 × sw_St} {σ : sw_St} (h : S_X10_draw_38 σ  = some p) : sw_W E sw_gX m_X10_draw d 38 [] [] σ (sw_pI p) := by
  unfold S_X10_draw_38 at h
  refine B_X10_draw_38  ?_
  exact SC_X10_draw_39 hd h
noncomputable def S_X10_draw_26 (σ : sw_St) (x1 : Int32) : Option (Int32 × sw_St) :=
  if ¬ x1 = 0 then (S_X10_draw_39 σ (((σ.1 0 13) / 64) - ((σ.1 0 13) / 64) / x1 * x1)) else none
theorem SC_X10_draw_26 {E : sw_E} {d : Nat} (hd : 0 ≤ d) {p : Int32 × sw_St} {σ : sw_St} {x1 : Int32} (h : S_X10_draw_26 σ x1 = some p) : sw_W E sw_gX m_X10_draw d 26 [(0, .ref 0), (1, .int x1)] [] σ (sw_pI p) := by
  unfold S_X10_draw_26 at h
  obtain ⟨o1, h⟩ := sw_ifs h
  refine B_X10_draw_26 o1 ?_
  exact SC_X10_draw_39 hd h
noncomputable def F_X10_draw (σ : sw_St) (x1 : Int32) : Option (Int32 × sw_St) :=
  if x1 ≤ 0 then (S_X10_draw_38 (sw_uI σ 0 13 ((((1103515245 * ((σ.1 0 13).toInt64)) + 12345) &&& 2147483647).toInt32)) ) else (S_X10_draw_26 (sw_uI σ 0 13 ((((1103515245 * ((σ.1 0 13).toInt64)) + 12345) &&& 2147483647).toInt32)) x1)
theorem FC_X10_draw {E : sw_E} {d : Nat} (hd : 0 ≤ d) {p : Int32 × sw_St} {σ : sw_St} {x1 : Int32} (h : F_X10_draw σ x1 = some p) : sw_KI E sw_gX m_X10_draw d [.ref 0, .int x1] σ (fun v s => v = p.1 ∧ s = p.2) := by
  unfold F_X10_draw at h
  refine sw_K.of (by decide +kernel) rfl (Nat.le_of_ble_eq_true rfl) ?_
  show sw_W E sw_gX m_X10_draw d 0 [(0, .ref 0), (1, .int x1)] [] σ (sw_pI p)
  refine B_X10_draw_0  (fun hc => ?_) (fun hc => ?_)
  · rw [if_pos hc] at h
    exact SC_X10_draw_38 hd h
  · rw [if_neg hc] at h
    exact SC_X10_draw_26 hd h
/-! java/lang/Integer.bitCount(I)I -/
noncomputable def F_J6_bitCount_0f7a4 (σ : sw_St) (x0 : Int32) : Option (Int32 × sw_St) :=
  some ((((((((x0 - (((x0.toUInt32 >>> ((1 : Int32).toUInt32 &&& Int32.toUInt32 31)).toInt32) &&& 1431655765)) &&& 858993459) + ((((x0 - (((x0.toUInt32 >>> ((1 : Int32).toUInt32 &&& Int32.toUInt32 31)).toInt32) &&& 1431655765)).toUInt32 >>> ((2 : Int32).toUInt32 &&& Int32.toUInt32 31)).toInt32) &&& 858993459)) + (((((x0 - (((x0.toUInt32 >>> ((1 : Int32).toUInt32 &&& Int32.toUInt32 31)).toInt32) &&& 1431655765)) &&& 858993459) + ((((x0 - (((x0.toUInt32 >>> ((1 : Int32).toUInt32 &&& Int32.toUInt32 31)).toInt32) &&& 1431655765)).toUInt32 >>> ((2 : Int32).toUInt32 &&& Int32.toUInt32 31)).toInt32) &&& 858993459)).toUInt32 >>> ((4 : Int32).toUInt32 &&& Int32.toUInt32 31)).toInt32)) &&& 252645135) + (((((((x0 - (((x0.toUInt32 >>> ((1 : Int32).toUInt32 &&& Int32.toUInt32 31)).toInt32) &&& 1431655765)) &&& 858993459) + ((((x0 - (((x0.toUInt32 >>> ((1 : Int32).toUInt32 &&& Int32.toUInt32 31)).toInt32) &&& 1431655765)).toUInt32 >>> ((2 : Int32).toUInt32 &&& Int32.toUInt32 31)).toInt32) &&& 858993459)) + (((((x0 - (((x0.toUInt32 >>> ((1 : Int32).toUInt32 &&& Int32.toUInt32 31)).toInt32) &&& 1431655765)) &&& 858993459) + ((((x0 - (((x0.toUInt32 >>> ((1 : Int32).toUInt32 &&& Int32.toUInt32 31)).toInt32) &&& 1431655765)).toUInt32 >>> ((2 : Int32).toUInt32 &&& Int32.toUInt32 31)).toInt32) &&& 858993459)).toUInt32 >>> ((4 : Int32).toUInt32 &&& Int32.toUInt32 31)).toInt32)) &&& 252645135).toUInt32 >>> ((8 : Int32).toUInt32 &&& Int32.toUInt32 31)).toInt32)) + ((((((((x0 - (((x0.toUInt32 >>> ((1 : Int32).toUInt32 &&& Int32.toUInt32 31)).toInt32) &&& 1431655765)) &&& 858993459) + ((((x0 - (((x0.toUInt32 >>> ((1 : Int32).toUInt32 &&& Int32.toUInt32 31)).toInt32) &&& 1431655765)).toUInt32 >>> ((2 : Int32).toUInt32 &&& Int32.toUInt32 31)).toInt32) &&& 858993459)) + (((((x0 - (((x0.toUInt32 >>> ((1 : Int32).toUInt32 &&& Int32.toUInt32 31)).toInt32) &&& 1431655765)) &&& 858993459) + ((((x0 - (((x0.toUInt32 >>> ((1 : Int32).toUInt32 &&& Int32.toUInt32 31)).toInt32) &&& 1431655765)).toUInt32 >>> ((2 : Int32).toUInt32 &&& Int32.toUInt32 31)).toInt32) &&& 858993459)).toUInt32 >>> ((4 : Int32).toUInt32 &&& Int32.toUInt32 31)).toInt32)) &&& 252645135) + (((((((x0 - (((x0.toUInt32 >>> ((1 : Int32).toUInt32 &&& Int32.toUInt32 31)).toInt32) &&& 1431655765)) &&& 858993459) + ((((x0 - (((x0.toUInt32 >>> ((1 : Int32).toUInt32 &&& Int32.toUInt32 31)).toInt32) &&& 1431655765)).toUInt32 >>> ((2 : Int32).toUInt32 &&& Int32.toUInt32 31)).toInt32) &&& 858993459)) + (((((x0 - (((x0.toUInt32 >>> ((1 : Int32).toUInt32 &&& Int32.toUInt32 31)).toInt32) &&& 1431655765)) &&& 858993459) + ((((x0 - (((x0.toUInt32 >>> ((1 : Int32).toUInt32 &&& Int32.toUInt32 31)).toInt32) &&& 1431655765)).toUInt32 >>> ((2 : Int32).toUInt32 &&& Int32.toUInt32 31)).toInt32) &&& 858993459)).toUInt32 >>> ((4 : Int32).toUInt32 &&& Int32.toUInt32 31)).toInt32)) &&& 252645135).toUInt32 >>> ((8 : Int32).toUInt32 &&& Int32.toUInt32 31)).toInt32)).toUInt32 >>> ((16 : Int32).toUInt32 &&& Int32.toUInt32 31)).toInt32)) &&& 63, σ)
theorem FC_J6_bitCount_0f7a4 {E : sw_E} {d : Nat} (hd : 0 ≤ d) {p : Int32 × sw_St} {σ : sw_St} {x0 : Int32} (h : F_J6_bitCount_0f7a4 σ x0 = some p) : sw_KI E sw_gX m_J6_bitCount_0f7a4 d [.int x0] σ (fun v s => v = p.1 ∧ s = p.2) := by
  unfold F_J6_bitCount_0f7a4 at h
  refine sw_KofF (by decide +kernel) rfl (Nat.le_of_ble_eq_true rfl) ?_
  show sw_W E sw_gX m_J6_bitCount_0f7a4 d 0 [(0, .int x0)] [] σ (sw_pI p)
  cases h
  exact B_J6_bitCount_0f7a4_0  ⟨_, rfl, rfl, rfl⟩
/-! java/lang/Math.floorDiv(II)I -/
noncomputable def S_J9_floorDiv_7cf53_21 (σ : sw_St) (x2 : Int32) : Option (Int32 × sw_St) :=
  some (x2, σ)
theorem SC_J9_floorDiv_7cf53_21 {E : sw_E} {d : Nat} (hd : 0 ≤ d) {p : Int32 × sw_St} {σ : sw_St} {x2 : Int32} (h : S_J9_floorDiv_7cf53_21 σ x2 = some p) : sw_W E sw_gX m_J9_floorDiv_7cf53 d 21 [(2, .int x2)] [] σ (sw_pI p) := by
  unfold S_J9_floorDiv_7cf53_21 at h
  cases h
  exact B_J9_floorDiv_7cf53_21  ⟨_, rfl, rfl, rfl⟩
noncomputable def F_J9_floorDiv_7cf53 (σ : sw_St) (x0 : Int32) (x1 : Int32) : Option (Int32 × sw_St) :=
  if ¬ x1 = 0 then (if 0 ≤ (x0 ^^^ x1) then (S_J9_floorDiv_7cf53_21 σ (x0 / x1)) else (if ((x0 / x1) * x1) = x0 then (S_J9_floorDiv_7cf53_21 σ (x0 / x1)) else (some ((x0 / x1) - 1, σ)))) else none
theorem FC_J9_floorDiv_7cf53 {E : sw_E} {d : Nat} (hd : 0 ≤ d) {p : Int32 × sw_St} {σ : sw_St} {x0 : Int32} {x1 : Int32} (h : F_J9_floorDiv_7cf53 σ x0 x1 = some p) : sw_KI E sw_gX m_J9_floorDiv_7cf53 d [.int x0, .int x1] σ (fun v s => v = p.1 ∧ s = p.2) := by
  unfold F_J9_floorDiv_7cf53 at h
  refine sw_KofF (by decide +kernel) rfl (Nat.le_of_ble_eq_true rfl) ?_
  show sw_W E sw_gX m_J9_floorDiv_7cf53 d 0 [(0, .int x0), (1, .int x1)] [] σ (sw_pI p)
  obtain ⟨o1, h⟩ := sw_ifs h
  refine B_J9_floorDiv_7cf53_0 o1 (fun hc => ?_) (fun hc => ?_)
  · rw [if_pos hc] at h
    exact SC_J9_floorDiv_7cf53_21 hd h
  · rw [if_neg hc] at h
    refine B_J9_floorDiv_7cf53_10  (fun hc => ?_) (fun hc => ?_)
    · rw [if_pos hc] at h
      exact SC_J9_floorDiv_7cf53_21 hd h
    · rw [if_neg hc] at h
      cases h
      exact B_J9_floorDiv_7cf53_17  ⟨_, rfl, rfl, rfl⟩
/-! java/lang/Math.max(II)I -/
noncomputable def S_J9_max_7cf53_10 (σ : sw_St) (sx0 : Int32) : Option (Int32 × sw_St) :=
  some (sx0, σ)
theorem SC_J9_max_7cf53_10 {E : sw_E} {d : Nat} (hd : 0 ≤ d) {p : Int32 × sw_St} {σ : sw_St} {sx0 : Int32} (h : S_J9_max_7cf53_10 σ sx0 = some p) : sw_W E sw_gX m_J9_max_7cf53 d 10 [] [.int sx0] σ (sw_pI p) := by
  unfold S_J9_max_7cf53_10 at h
  cases h
  exact B_J9_max_7cf53_10  ⟨_, rfl, rfl, rfl⟩
noncomputable def F_J9_max_7cf53 (σ : sw_St) (x0 : Int32) (x1 : Int32) : Option (Int32 × sw_St) :=
  if x0 < x1 then (S_J9_max_7cf53_10 σ x1) else (S_J9_max_7cf53_10 σ x0)
theorem FC_J9_max_7cf53 {E : sw_E} {d : Nat} (hd : 0 ≤ d) {p : Int32 × sw_St} {σ : sw_St} {x0 : Int32} {x1 : Int32} (h : F_J9_max_7cf53 σ x0 x1 = some p) : sw_KI E sw_gX m_J9_max_7cf53 d [.int x0, .int x1] σ (fun v s => v = p.1 ∧ s = p.2) := by
  unfold F_J9_max_7cf53 at h
  refine sw_KofF (by decide +kernel) rfl (Nat.le_of_ble_eq_true rfl) ?_
  show sw_W E sw_gX m_J9_max_7cf53 d 0 [(0, .int x0), (1, .int x1)] [] σ (sw_pI p)
  refine B_J9_max_7cf53_0  (fun hc => ?_) (fun hc => ?_)
  · rw [if_pos hc] at h
    refine B_J9_max_7cf53_9  ?_
    exact SC_J9_max_7cf53_10 hd h
  · rw [if_neg hc] at h
    refine B_J9_max_7cf53_5  ?_
    exact SC_J9_max_7cf53_10 hd h
/-! java/lang/Math.max(JJ)J -/
noncomputable def S_J9_max_f86c9_11 (σ : sw_St) (sy0 : Int64) : Option (Int64 × sw_St) :=
  some (sy0, σ)
theorem SC_J9_max_f86c9_11 {E : sw_E} {d : Nat} (hd : 0 ≤ d) {p : Int64 × sw_St} {σ : sw_St} {sy0 : Int64} (h : S_J9_max_f86c9_11 σ sy0 = some p) : sw_W E sw_gX m_J9_max_f86c9 d 11 [] [.long sy0] σ (sw_pL p) := by
  unfold S_J9_max_f86c9_11 at h
  cases h
  exact B_J9_max_f86c9_11  ⟨_, rfl, rfl, rfl⟩
noncomputable def F_J9_max_f86c9 (σ : sw_St) (y0 : Int64) (y2 : Int64) : Option (Int64 × sw_St) :=
  if (lg_cmp y0 y2) < 0 then (S_J9_max_f86c9_11 σ y2) else (S_J9_max_f86c9_11 σ y0)
theorem FC_J9_max_f86c9 {E : sw_E} {d : Nat} (hd : 0 ≤ d) {p : Int64 × sw_St} {σ : sw_St} {y0 : Int64} {y2 : Int64} (h : F_J9_max_f86c9 σ y0 y2 = some p) : sw_KL E sw_gX m_J9_max_f86c9 d [.long y0, .long y2] σ (fun v s => v = p.1 ∧ s = p.2) := by
  unfold F_J9_max_f86c9 at h
  refine sw_KofF (by decide +kernel) rfl (Nat.le_of_ble_eq_true rfl) ?_
  show sw_W E sw_gX m_J9_max_f86c9 d 0 [(0, .long y0), (2, .long y2)] [] σ (sw_pL p)
  refine B_J9_max_f86c9_0  (fun hc => ?_) (fun hc => ?_)
  · rw [if_pos hc] at h
    refine B_J9_max_f86c9_10  ?_
    exact SC_J9_max_f86c9_11 hd h
  · rw [if_neg hc] at h
    refine B_J9_max_f86c9_6  ?_
    exact SC_J9_max_f86c9_11 hd h
/-! java/lang/Math.min(II)I -/
noncomputable def S_J9_min_7cf53_10 (σ : sw_St) (sx0 : Int32) : Option (Int32 × sw_St) :=
  some (sx0, σ)
theorem SC_J9_min_7cf53_10 {E : sw_E} {d : Nat} (hd : 0 ≤ d) {p : Int32 × sw_St} {σ : sw_St} {sx0 : Int32} (h : S_J9_min_7cf53_10 σ sx0 = some p) : sw_W E sw_gX m_J9_min_7cf53 d 10 [] [.int sx0] σ (sw_pI p) := by
  unfold S_J9_min_7cf53_10 at h
  cases h
  exact B_J9_min_7cf53_10  ⟨_, rfl, rfl, rfl⟩
noncomputable def F_J9_min_7cf53 (σ : sw_St) (x0 : Int32) (x1 : Int32) : Option (Int32 × sw_St) :=
  if x1 < x0 then (S_J9_min_7cf53_10 σ x1) else (S_J9_min_7cf53_10 σ x0)
theorem FC_J9_min_7cf53 {E : sw_E} {d : Nat} (hd : 0 ≤ d) {p : Int32 × sw_St} {σ : sw_St} {x0 : Int32} {x1 : Int32} (h : F_J9_min_7cf53 σ x0 x1 = some p) : sw_KI E sw_gX m_J9_min_7cf53 d [.int x0, .int x1] σ (fun v s => v = p.1 ∧ s = p.2) := by
  unfold F_J9_min_7cf53 at h
  refine sw_KofF (by decide +kernel) rfl (Nat.le_of_ble_eq_true rfl) ?_
  show sw_W E sw_gX m_J9_min_7cf53 d 0 [(0, .int x0), (1, .int x1)] [] σ (sw_pI p)
  refine B_J9_min_7cf53_0  (fun hc => ?_) (fun hc => ?_)
  · rw [if_pos hc] at h
    refine B_J9_min_7cf53_9  ?_
    exact SC_J9_min_7cf53_10 hd h
  · rw [if_neg hc] at h
    refine B_J9_min_7cf53_5  ?_
    exact SC_J9_min_7cf53_10 hd h
/-! java/lang/Math.min(JJ)J -/
noncomputable def S_J9_min_f86c9_11 (σ : sw_St) (sy0 : Int64) : Option (Int64 × sw_St) :=
  some (sy0, σ)
theorem SC_J9_min_f86c9_11 {E : sw_E} {d : Nat} (hd : 0 ≤ d) {p : Int64 × sw_St} {σ : sw_St} {sy0 : Int64} (h : S_J9_min_f86c9_11 σ sy0 = some p) : sw_W E sw_gX m_J9_min_f86c9 d 11 [] [.long sy0] σ (sw_pL p) := by
  unfold S_J9_min_f86c9_11 at h
  cases h
  exact B_J9_min_f86c9_11  ⟨_, rfl, rfl, rfl⟩
noncomputable def F_J9_min_f86c9 (σ : sw_St) (y0 : Int64) (y2 : Int64) : Option (Int64 × sw_St) :=
  if 0 < (lg_cmp y0 y2) then (S_J9_min_f86c9_11 σ y2) else (S_J9_min_f86c9_11 σ y0)
theorem FC_J9_min_f86c9 {E : sw_E} {d : Nat} (hd : 0 ≤ d) {p : Int64 × sw_St} {σ : sw_St} {y0 : Int64} {y2 : Int64} (h : F_J9_min_f86c9 σ y0 y2 = some p) : sw_KL E sw_gX m_J9_min_f86c9 d [.long y0, .long y2] σ (fun v s => v = p.1 ∧ s = p.2) := by
  unfold F_J9_min_f86c9 at h
  refine sw_KofF (by decide +kernel) rfl (Nat.le_of_ble_eq_true rfl) ?_
  show sw_W E sw_gX m_J9_min_f86c9 d 0 [(0, .long y0), (2, .long y2)] [] σ (sw_pL p)
  refine B_J9_min_f86c9_0  (fun hc => ?_) (fun hc => ?_)
  · rw [if_pos hc] at h
    refine B_J9_min_f86c9_10  ?_
    exact SC_J9_min_f86c9_11 hd h
  · rw [if_neg hc] at h
    refine B_J9_min_f86c9_6  ?_
    exact SC_J9_min_f86c9_11 hd h
/-! java/util/Arrays.fill([JJ)V -/
noncomputable def S_J7_fill_d0a16_6 (c6 : sw_St → Nat → Int64 → Int32 → Int32 → Option (Unit × sw_St)) (σ : sw_St) (o0 : Nat) (y1 : Int64) (x3 : Int32) (x4 : Int32) : Option (Unit × sw_St) :=
  if x4 ≤ x3 then (some ((), σ)) else (if sw_isA sw_gX o0 3 = true then (if sw_inb x3 (sw_ln sw_gX o0) = true then (c6 (sw_uL σ o0 x3.toNatClampNeg y1) o0 y1 (x3 + 1) x4) else none) else none)
theorem SC_J7_fill_d0a16_6 {E : sw_E} {d : Nat} (hd : 0 ≤ d) {p : Unit × sw_St} {c6 : sw_St → Nat → Int64 → Int32 → Int32 → Option (Unit × sw_St)} (h6 : ∀ (σ : sw_St) (o0 : Nat) (y1 : Int64) (x3 : Int32) (x4 : Int32), c6 σ o0 y1 x3 x4 = some p → sw_W E sw_gX m_J7_fill_d0a16 d 6 [(0, .ref o0), (1, .long y1), (3, .int x3), (4, .int x4)] [] σ (sw_pV p)) {σ : sw_St} {o0 : Nat} {y1 : Int64} {x3 : Int32} {x4 : Int32} (h : S_J7_fill_d0a16_6 c6 σ o0 y1 x3 x4 = some p) : sw_W E sw_gX m_J7_fill_d0a16 d 6 [(0, .ref o0), (1, .long y1), (3, .int x3), (4, .int x4)] [] σ (sw_pV p) := by
  unfold S_J7_fill_d0a16_6 at h
  refine B_J7_fill_d0a16_6  (fun hc => ?_) (fun hc => ?_)
  · rw [if_pos hc] at h
    cases h
    exact B_J7_fill_d0a16_22  ⟨rfl, rfl⟩
  · rw [if_neg hc] at h
    obtain ⟨o1, h⟩ := sw_ifs h
    obtain ⟨o2, h⟩ := sw_ifs h
    refine B_J7_fill_d0a16_12 o1 (sw_inb_sp o2) ?_
    exact h6 _ _ _ _ _ h
noncomputable def L_J7_fill_d0a16_6 : Nat → sw_St → Nat → Int64 → Int32 → Int32 → Option (Unit × sw_St)
  | 0, _, _, _, _, _ => none
  | k + 1, σ, o0, y1, x3, x4 => S_J7_fill_d0a16_6 (fun σ o0 y1 x3 x4 => L_J7_fill_d0a16_6 k σ o0 y1 x3 x4) σ o0 y1 x3 x4
theorem LC_J7_fill_d0a16_6 {E : sw_E} {d : Nat} (hd : 0 ≤ d) {p : Unit × sw_St} : ∀ (k : Nat) (σ : sw_St) (o0 : Nat) (y1 : Int64) (x3 : Int32) (x4 : Int32), L_J7_fill_d0a16_6 k σ o0 y1 x3 x4 = some p → sw_W E sw_gX m_J7_fill_d0a16 d 6 [(0, .ref o0), (1, .long y1), (3, .int x3), (4, .int x4)] [] σ (sw_pV p) := by
  intro k
  induction k with
  | zero => intro σ o0 y1 x3 x4 h; cases h
  | succ k ih => intro σ o0 y1 x3 x4 h; exact SC_J7_fill_d0a16_6 hd ih h
noncomputable def F_J7_fill_d0a16 (σ : sw_St) (o0 : Nat) (y1 : Int64) : Option (Unit × sw_St) :=
  if (sw_isA sw_gX o0 0 || sw_isA sw_gX o0 1 || sw_isA sw_gX o0 2 || sw_isA sw_gX o0 3) = true then (L_J7_fill_d0a16_6 sw_fuel σ o0 y1 0 (nI (sw_ln sw_gX o0))) else none
theorem FC_J7_fill_d0a16 {E : sw_E} {d : Nat} (hd : 0 ≤ d) {p : Unit × sw_St} {σ : sw_St} {o0 : Nat} {y1 : Int64} (h : F_J7_fill_d0a16 σ o0 y1 = some p) : sw_KV E sw_gX m_J7_fill_d0a16 d [.ref o0, .long y1] σ (fun s => s = p.2) := by
  unfold F_J7_fill_d0a16 at h
  refine sw_KofF (by decide +kernel) rfl (Nat.le_of_ble_eq_true rfl) ?_
  show sw_W E sw_gX m_J7_fill_d0a16 d 0 [(0, .ref o0), (1, .long y1)] [] σ (sw_pV p)
  obtain ⟨o1, h⟩ := sw_ifs h
  refine B_J7_fill_d0a16_0 o1 ?_
  exact LC_J7_fill_d0a16_6 hd _ _ _ _ _ _ h
/-! java/util/Arrays.fill([II)V -/
noncomputable def S_J7_fill_53178_5 (c5 : sw_St → Nat → Int32 → Int32 → Int32 → Option (Unit × sw_St)) (σ : sw_St) (o0 : Nat) (x1 : Int32) (x2 : Int32) (x3 : Int32) : Option (Unit × sw_St) :=
  if x3 ≤ x2 then (some ((), σ)) else (if sw_isA sw_gX o0 0 = true then (if sw_inb x2 (sw_ln sw_gX o0) = true then (c5 (sw_uI σ o0 x2.toNatClampNeg x1) o0 x1 (x2 + 1) x3) else none) else none)
theorem SC_J7_fill_53178_5 {E : sw_E} {d : Nat} (hd : 0 ≤ d) {p : Unit × sw_St} {c5 : sw_St → Nat → Int32 → Int32 → Int32 → Option (Unit × sw_St)} (h5 : ∀ (σ : sw_St) (o0 : Nat) (x1 : Int32) (x2 : Int32) (x3 : Int32), c5 σ o0 x1 x2 x3 = some p → sw_W E sw_gX m_J7_fill_53178 d 5 [(0, .ref o0), (1, .int x1), (2, .int x2), (3, .int x3)] [] σ (sw_pV p)) {σ : sw_St} {o0 : Nat} {x1 : Int32} {x2 : Int32} {x3 : Int32} (h : S_J7_fill_53178_5 c5 σ o0 x1 x2 x3 = some p) : sw_W E sw_gX m_J7_fill_53178 d 5 [(0, .ref o0), (1, .int x1), (2, .int x2), (3, .int x3)] [] σ (sw_pV p) := by
  unfold S_J7_fill_53178_5 at h
  refine B_J7_fill_53178_5  (fun hc => ?_) (fun hc => ?_)
  · rw [if_pos hc] at h
    cases h
    exact B_J7_fill_53178_20  ⟨rfl, rfl⟩
  · rw [if_neg hc] at h
    obtain ⟨o1, h⟩ := sw_ifs h
    obtain ⟨o2, h⟩ := sw_ifs h
    refine B_J7_fill_53178_10 o1 (sw_inb_sp o2) ?_
    exact h5 _ _ _ _ _ h
noncomputable def L_J7_fill_53178_5 : Nat → sw_St → Nat → Int32 → Int32 → Int32 → Option (Unit × sw_St)
  | 0, _, _, _, _, _ => none
  | k + 1, σ, o0, x1, x2, x3 => S_J7_fill_53178_5 (fun σ o0 x1 x2 x3 => L_J7_fill_53178_5 k σ o0 x1 x2 x3) σ o0 x1 x2 x3
theorem LC_J7_fill_53178_5 {E : sw_E} {d : Nat} (hd : 0 ≤ d) {p : Unit × sw_St} : ∀ (k : Nat) (σ : sw_St) (o0 : Nat) (x1 : Int32) (x2 : Int32) (x3 : Int32), L_J7_fill_53178_5 k σ o0 x1 x2 x3 = some p → sw_W E sw_gX m_J7_fill_53178 d 5 [(0, .ref o0), (1, .int x1), (2, .int x2), (3, .int x3)] [] σ (sw_pV p) := by
  intro k
  induction k with
  | zero => intro σ o0 x1 x2 x3 h; cases h
  | succ k ih => intro σ o0 x1 x2 x3 h; exact SC_J7_fill_53178_5 hd ih h
noncomputable def F_J7_fill_53178 (σ : sw_St) (o0 : Nat) (x1 : Int32) : Option (Unit × sw_St) :=
  if (sw_isA sw_gX o0 0 || sw_isA sw_gX o0 1 || sw_isA sw_gX o0 2 || sw_isA sw_gX o0 3) = true then (L_J7_fill_53178_5 sw_fuel σ o0 x1 0 (nI (sw_ln sw_gX o0))) else none
theorem FC_J7_fill_53178 {E : sw_E} {d : Nat} (hd : 0 ≤ d) {p : Unit × sw_St} {σ : sw_St} {o0 : Nat} {x1 : Int32} (h : F_J7_fill_53178 σ o0 x1 = some p) : sw_KV E sw_gX m_J7_fill_53178 d [.ref o0, .int x1] σ (fun s => s = p.2) := by
  unfold F_J7_fill_53178 at h
  refine sw_KofF (by decide +kernel) rfl (Nat.le_of_ble_eq_true rfl) ?_
  show sw_W E sw_gX m_J7_fill_53178 d 0 [(0, .ref o0), (1, .int x1)] [] σ (sw_pV p)
  obtain ⟨o1, h⟩ := sw_ifs h
  refine B_J7_fill_53178_0 o1 ?_
  exact LC_J7_fill_53178_5 hd _ _ _ _ _ _ h
/-! StrayWool$Foresight.daysAtMost(I)I -/
noncomputable def F_X1_daysAtMost (σ : sw_St) (x1 : Int32) : Option (Int32 × sw_St) :=
  (F_J9_min_7cf53 σ x1 (999 - (σ.1 38 0))).bind fun q1 => some (q1.1, q1.2)
theorem FC_X1_daysAtMost {E : sw_E} {d : Nat} (hd : 1 ≤ d) {p : Int32 × sw_St} {σ : sw_St} {x1 : Int32} (h : F_X1_daysAtMost σ x1 = some p) : sw_KI E sw_gX m_X1_daysAtMost d [.ref 54, .int x1] σ (fun v s => v = p.1 ∧ s = p.2) := by
  unfold F_X1_daysAtMost at h
  refine sw_K.of (by decide +kernel) rfl (Nat.le_of_ble_eq_true rfl) ?_
  show sw_W E sw_gX m_X1_daysAtMost d 0 [(0, .ref 54), (1, .int x1)] [] σ (sw_pI p)
  obtain ⟨q1, hq, h⟩ := sw_bnd h
  refine B_X1_daysAtMost_0  (FC_J9_min_7cf53 (Nat.le_refl _) hq) (Nat.lt_of_lt_of_le (by decide) hd) (fun v s hvs => ?_)
  obtain ⟨hv1, hv2⟩ := hvs; subst hv1; subst hv2
  cases h
  exact B_X1_daysAtMost_15  ⟨_, rfl, rfl, rfl⟩
/-! StrayWool$Foresight.isFewer(I)Z -/
noncomputable def S_X1_isFewer_46 (σ : sw_St) (sx0 : Int32) : Option (Int32 × sw_St) :=
  if sx0 = 0 ∨ sx0 = 1 then some (sx0, σ) else none
theorem SC_X1_isFewer_46 {E : sw_E} {d : Nat} (hd : 1 ≤ d) {p : Int32 × sw_St} {σ : sw_St} {sx0 : Int32} (h : S_X1_isFewer_46 σ sx0 = some p) : sw_W E sw_gX m_X1_isFewer d 46 [] [.int sx0] σ (sw_pI p) := by
  unfold S_X1_isFewer_46 at h
  obtain ⟨hz, h⟩ := sw_ifs h
  cases h
  exact B_X1_isFewer_46  hz ⟨_, rfl, rfl, rfl⟩
noncomputable def S_X1_isFewer_41 (σ : sw_St) : Option (Int32 × sw_St) :=
  S_X1_isFewer_46 σ 1
theorem SC_X1_isFewer_41 {E : sw_E} {d : Nat} (hd : 1 ≤ d) {p : Int32 × sw_St} {σ : sw_St} (h : S_X1_isFewer_41 σ  = some p) : sw_W E sw_gX m_X1_isFewer d 41 [] [] σ (sw_pI p) := by
  unfold S_X1_isFewer_41 at h
  refine B_X1_isFewer_41  ?_
  exact SC_X1_isFewer_46 hd h
noncomputable def S_X1_isFewer_45 (σ : sw_St) : Option (Int32 × sw_St) :=
  S_X1_isFewer_46 σ 0
theorem SC_X1_isFewer_45 {E : sw_E} {d : Nat} (hd : 1 ≤ d) {p : Int32 × sw_St} {σ : sw_St} (h : S_X1_isFewer_45 σ  = some p) : sw_W E sw_gX m_X1_isFewer d 45 [] [] σ (sw_pI p) := by
  unfold S_X1_isFewer_45 at h
  refine B_X1_isFewer_45  ?_
  exact SC_X1_isFewer_46 hd h
noncomputable def S_X1_isFewer_24 (σ : sw_St) (x1 : Int32) (sx0 : Int32) : Option (Int32 × sw_St) :=
  if sx0 < 0 then (S_X1_isFewer_41 σ ) else (if sx0 = 0 then (if (σ.1 54 5) ≤ x1 then (S_X1_isFewer_45 σ ) else (S_X1_isFewer_41 σ )) else (S_X1_isFewer_45 σ ))
theorem SC_X1_isFewer_24 {E : sw_E} {d : Nat} (hd : 1 ≤ d) {p : Int32 × sw_St} {σ : sw_St} {x1 : Int32} {sx0 : Int32} (h : S_X1_isFewer_24 σ x1 sx0 = some p) : sw_W E sw_gX m_X1_isFewer d 24 [(0, .ref 54), (1, .int x1)] [.int sx0] σ (sw_pI p) := by
  unfold S_X1_isFewer_24 at h
  refine B_X1_isFewer_24  (fun hc => ?_) (fun hc => ?_)
  · rw [if_pos hc] at h
    exact SC_X1_isFewer_41 hd h
  · rw [if_neg hc] at h
    refine B_X1_isFewer_29  (fun hc => ?_) (fun hc => ?_)
    · rw [if_neg hc] at h
      exact SC_X1_isFewer_45 hd h
    · rw [if_pos hc] at h
      refine B_X1_isFewer_33  (fun hc => ?_) (fun hc => ?_)
      · rw [if_pos hc] at h
        exact SC_X1_isFewer_45 hd h
      · rw [if_neg hc] at h
        exact SC_X1_isFewer_41 hd h
noncomputable def F_X1_isFewer (σ : sw_St) (x1 : Int32) : Option (Int32 × sw_St) :=
  if (σ.1 54 5) = (-1) then (S_X1_isFewer_24 σ x1 (-1)) else ((F_J6_bitCount_0f7a4 σ x1).bind fun q1 => (F_J6_bitCount_0f7a4 q1.2 (q1.2.1 54 5)).bind fun q2 => S_X1_isFewer_24 q2.2 x1 (q1.1 - q2.1))
theorem FC_X1_isFewer {E : sw_E} {d : Nat} (hd : 1 ≤ d) {p : Int32 × sw_St} {σ : sw_St} {x1 : Int32} (h : F_X1_isFewer σ x1 = some p) : sw_KI E sw_gX m_X1_isFewer d [.ref 54, .int x1] σ (fun v s => v = p.1 ∧ s = p.2) := by
  unfold F_X1_isFewer at h
  refine sw_K.of (by decide +kernel) rfl (Nat.le_of_ble_eq_true rfl) ?_
  show sw_W E sw_gX m_X1_isFewer d 0 [(0, .ref 54), (1, .int x1)] [] σ (sw_pI p)
  refine B_X1_isFewer_0  (fun hc => ?_) (fun hc => ?_)
  · rw [if_neg hc] at h
    obtain ⟨q1, hq, h⟩ := sw_bnd h
    refine B_X1_isFewer_12  (FC_J6_bitCount_0f7a4 (Nat.le_refl _) hq) (Nat.lt_of_lt_of_le (by decide) hd) (fun v s hvs => ?_)
    obtain ⟨hv1, hv2⟩ := hvs; subst hv1; subst hv2
    obtain ⟨q2, hq, h⟩ := sw_bnd h
    refine B_X1_isFewer_16  (FC_J6_bitCount_0f7a4 (Nat.le_refl _) hq) (Nat.lt_of_lt_of_le (by decide) hd) (fun v s hvs => ?_)
    obtain ⟨hv1, hv2⟩ := hvs; subst hv1; subst hv2
    refine B_X1_isFewer_23  ?_
    exact SC_X1_isFewer_24 hd h
  · rw [if_pos hc] at h
    refine B_X1_isFewer_8  ?_
    exact SC_X1_isFewer_24 hd h
/-! StrayWool$Foresight.fewestMiles(II)I -/
noncomputable def S_X1_fewestMiles_113 (c26 : sw_St → Int32 → Nat → Int32 → Option (Int32 × sw_St)) (c38 : sw_St → Int32 → Nat → Int32 → Int32 → Option (Int32 × sw_St)) (σ : sw_St) (x2 : Int32) (o3 : Nat) (x4 : Int32) (x5 : Int32) : Option (Int32 × sw_St) :=
  c38 σ x2 o3 x4 (x5 + 1)
theorem SC_X1_fewestMiles_113 {E : sw_E} {d : Nat} (hd : 1 ≤ d) {p : Int32 × sw_St} {c26 : sw_St → Int32 → Nat → Int32 → Option (Int32 × sw_St)} {c38 : sw_St → Int32 → Nat → Int32 → Int32 → Option (Int32 × sw_St)} (h26 : ∀ (σ : sw_St) (x2 : Int32) (o3 : Nat) (x4 : Int32), c26 σ x2 o3 x4 = some p → sw_W E sw_gX m_X1_fewestMiles d 26 [(0, .ref 54), (2, .int x2), (3, .ref o3), (4, .int x4)] [] σ (sw_pI p)) (h38 : ∀ (σ : sw_St) (x2 : Int32) (o3 : Nat) (x4 : Int32) (x5 : Int32), c38 σ x2 o3 x4 x5 = some p → sw_W E sw_gX m_X1_fewestMiles d 38 [(0, .ref 54), (2, .int x2), (3, .ref o3), (4, .int x4), (5, .int x5)] [] σ (sw_pI p)) {σ : sw_St} {x2 : Int32} {o3 : Nat} {x4 : Int32} {x5 : Int32} (h : S_X1_fewestMiles_113 c26 c38 σ x2 o3 x4 x5 = some p) : sw_W E sw_gX m_X1_fewestMiles d 113 [(0, .ref 54), (2, .int x2), (3, .ref o3), (4, .int x4), (5, .int x5)] [] σ (sw_pI p) := by
  unfold S_X1_fewestMiles_113 at h
  refine B_X1_fewestMiles_113  ?_
  exact h38 _ _ _ _ _ h
noncomputable def S_X1_fewestMiles_38 (c26 : sw_St → Int32 → Nat → Int32 → Option (Int32 × sw_St)) (c38 : sw_St → Int32 → Nat → Int32 → Int32 → Option (Int32 × sw_St)) (σ : sw_St) (x2 : Int32) (o3 : Nat) (x4 : Int32) (x5 : Int32) : Option (Int32 × sw_St) :=
  if sw_isO sw_gX o3 9 = true then (if (σ.1 o3 2) ≤ x5 then (c26 σ x2 o3 (x4 + 1)) else (if (((σ.1 38 2) >>> (x5 &&& 31)) &&& 1) = 1 then (if sw_isO sw_gX o3 9 = true then (if sw_isA sw_gX (o3 + 3) 0 = true then (if sw_inb x5 (sw_ln sw_gX (o3 + 3)) = true then (if sw_isO sw_gX o3 9 = true then (if sw_isA sw_gX (o3 + 4) 0 = true then (if sw_inb x5 (sw_ln sw_gX (o3 + 4)) = true then (if sw_isO sw_gX o3 9 = true then (if sw_isA sw_gX (o3 + 5) 0 = true then (if sw_inb x5 (sw_ln sw_gX (o3 + 5)) = true then ((F_X1_shorten σ (σ.1 (o3 + 3) x5.toNatClampNeg) (σ.1 (o3 + 4) x5.toNatClampNeg) (σ.1 (o3 + 5) x5.toNatClampNeg)).bind fun q11 => if sw_isO sw_gX o3 9 = true then (if sw_isA sw_gX (o3 + 4) 0 = true then (if sw_inb x5 (sw_ln sw_gX (o3 + 4)) = true then (if sw_isO sw_gX o3 9 = true then (if sw_isA sw_gX (o3 + 3) 0 = true then (if sw_inb x5 (sw_ln sw_gX (o3 + 3)) = true then (if sw_isO sw_gX o3 9 = true then (if sw_isA sw_gX (o3 + 5) 0 = true then (if sw_inb x5 (sw_ln sw_gX (o3 + 5)) = true then ((F_X1_shorten q11.2 (q11.2.1 (o3 + 4) x5.toNatClampNeg) (q11.2.1 (o3 + 3) x5.toNatClampNeg) (q11.2.1 (o3 + 5) x5.toNatClampNeg)).bind fun q21 => S_X1_fewestMiles_113 c26 c38 q21.2 x2 o3 x4 x5) else none) else none) else none) else none) else none) else none) else none) else none) else none) else none) else none) else none) else none) else none) else none) else none) else none) else none) else (S_X1_fewestMiles_113 c26 c38 σ x2 o3 x4 x5))) else none
theorem SC_X1_fewestMiles_38 {E : sw_E} {d : Nat} (hd : 1 ≤ d) {p : Int32 × sw_St} {c26 : sw_St → Int32 → Nat → Int32 → Option (Int32 × sw_St)} {c38 : sw_St → Int32 → Nat → Int32 → Int32 → Option (Int32 × sw_St)} (h26 : ∀ (σ : sw_St) (x2 : Int32) (o3 : Nat) (x4 : Int32), c26 σ x2 o3 x4 = some p → sw_W E sw_gX m_X1_fewestMiles d 26 [(0, .ref 54), (2, .int x2), (3, .ref o3), (4, .int x4)] [] σ (sw_pI p)) (h38 : ∀ (σ : sw_St) (x2 : Int32) (o3 : Nat) (x4 : Int32) (x5 : Int32), c38 σ x2 o3 x4 x5 = some p → sw_W E sw_gX m_X1_fewestMiles d 38 [(0, .ref 54), (2, .int x2), (3, .ref o3), (4, .int x4), (5, .int x5)] [] σ (sw_pI p)) {σ : sw_St} {x2 : Int32} {o3 : Nat} {x4 : Int32} {x5 : Int32} (h : S_X1_fewestMiles_38 c26 c38 σ x2 o3 x4 x5 = some p) : sw_W E sw_gX m_X1_fewestMiles d 38 [(0, .ref 54), (2, .int x2), (3, .ref o3), (4, .int x4), (5, .int x5)] [] σ (sw_pI p) := by
  unfold S_X1_fewestMiles_38 at h
  obtain ⟨o1, h⟩ := sw_ifs h
  refine B_X1_fewestMiles_38 o1 (fun hc => ?_) (fun hc => ?_)
  · rw [if_pos hc] at h
    refine B_X1_fewestMiles_119  ?_
    exact h26 _ _ _ _ h
  · rw [if_neg hc] at h
    refine B_X1_fewestMiles_47  (fun hc => ?_) (fun hc => ?_)
    · rw [if_neg hc] at h
      exact SC_X1_fewestMiles_113 hd h26 h38 h
    · rw [if_pos hc] at h
      obtain ⟨o2, h⟩ := sw_ifs h
      obtain ⟨o3, h⟩ := sw_ifs h
      obtain ⟨o4, h⟩ := sw_ifs h
      obtain ⟨o5, h⟩ := sw_ifs h
      obtain ⟨o6, h⟩ := sw_ifs h
      obtain ⟨o7, h⟩ := sw_ifs h
      obtain ⟨o8, h⟩ := sw_ifs h
      obtain ⟨o9, h⟩ := sw_ifs h
      obtain ⟨o10, h⟩ := sw_ifs h
      obtain ⟨q11, hq, h⟩ := sw_bnd h
      refine B_X1_fewestMiles_63 o2 o3 (sw_inb_sp o4) o5 o6 (sw_inb_sp o7) o8 o9 (sw_inb_sp o10) (FC_X1_shorten (Nat.le_refl _) hq) (Nat.lt_of_lt_of_le (by decide) hd) (fun s hvs => ?_)
      subst hvs
      obtain ⟨o12, h⟩ := sw_ifs h
      obtain ⟨o13, h⟩ := sw_ifs h
      obtain ⟨o14, h⟩ := sw_ifs h
      obtain ⟨o15, h⟩ := sw_ifs h
      obtain ⟨o16, h⟩ := sw_ifs h
      obtain ⟨o17, h⟩ := sw_ifs h
      obtain ⟨o18, h⟩ := sw_ifs h
      obtain ⟨o19, h⟩ := sw_ifs h
      obtain ⟨o20, h⟩ := sw_ifs h
      obtain ⟨q21, hq, h⟩ := sw_bnd h
      refine B_X1_fewestMiles_88 o12 o13 (sw_inb_sp o14) o15 o16 (sw_inb_sp o17) o18 o19 (sw_inb_sp o20) (FC_X1_shorten (Nat.le_refl _) hq) (Nat.lt_of_lt_of_le (by decide) hd) (fun s hvs => ?_)
      subst hvs
      exact SC_X1_fewestMiles_113 hd h26 h38 h
noncomputable def L_X1_fewestMiles_38 (c26 : sw_St → Int32 → Nat → Int32 → Option (Int32 × sw_St)) : Nat → sw_St → Int32 → Nat → Int32 → Int32 → Option (Int32 × sw_St)
  | 0, _, _, _, _, _ => none
  | k + 1, σ, x2, o3, x4, x5 => S_X1_fewestMiles_38 c26 (fun σ x2 o3 x4 x5 => L_X1_fewestMiles_38 c26 k σ x2 o3 x4 x5) σ x2 o3 x4 x5
theorem LC_X1_fewestMiles_38 {E : sw_E} {d : Nat} (hd : 1 ≤ d) {p : Int32 × sw_St} {c26 : sw_St → Int32 → Nat → Int32 → Option (Int32 × sw_St)} (h26 : ∀ (σ : sw_St) (x2 : Int32) (o3 : Nat) (x4 : Int32), c26 σ x2 o3 x4 = some p → sw_W E sw_gX m_X1_fewestMiles d 26 [(0, .ref 54), (2, .int x2), (3, .ref o3), (4, .int x4)] [] σ (sw_pI p)) : ∀ (k : Nat) (σ : sw_St) (x2 : Int32) (o3 : Nat) (x4 : Int32) (x5 : Int32), L_X1_fewestMiles_38 c26 k σ x2 o3 x4 x5 = some p → sw_W E sw_gX m_X1_fewestMiles d 38 [(0, .ref 54), (2, .int x2), (3, .ref o3), (4, .int x4), (5, .int x5)] [] σ (sw_pI p) := by
  intro k
  induction k with
  | zero => intro σ x2 o3 x4 x5 h; cases h
  | succ k ih => intro σ x2 o3 x4 x5 h; exact SC_X1_fewestMiles_38 hd h26 ih h
noncomputable def S_X1_fewestMiles_26 (c26 : sw_St → Int32 → Nat → Int32 → Option (Int32 × sw_St)) (σ : sw_St) (x2 : Int32) (o3 : Nat) (x4 : Int32) : Option (Int32 × sw_St) :=
  if sw_isO sw_gX o3 9 = true then (if (σ.1 o3 1) ≤ x4 then (if sw_inb x2 8 = true then (some (σ.1 58 x2.toNatClampNeg, σ)) else none) else (L_X1_fewestMiles_38 c26 sw_fuel σ x2 o3 x4 0)) else none
theorem SC_X1_fewestMiles_26 {E : sw_E} {d : Nat} (hd : 1 ≤ d) {p : Int32 × sw_St} {c26 : sw_St → Int32 → Nat → Int32 → Option (Int32 × sw_St)} (h26 : ∀ (σ : sw_St) (x2 : Int32) (o3 : Nat) (x4 : Int32), c26 σ x2 o3 x4 = some p → sw_W E sw_gX m_X1_fewestMiles d 26 [(0, .ref 54), (2, .int x2), (3, .ref o3), (4, .int x4)] [] σ (sw_pI p)) {σ : sw_St} {x2 : Int32} {o3 : Nat} {x4 : Int32} (h : S_X1_fewestMiles_26 c26 σ x2 o3 x4 = some p) : sw_W E sw_gX m_X1_fewestMiles d 26 [(0, .ref 54), (2, .int x2), (3, .ref o3), (4, .int x4)] [] σ (sw_pI p) := by
  unfold S_X1_fewestMiles_26 at h
  obtain ⟨o1, h⟩ := sw_ifs h
  refine B_X1_fewestMiles_26 o1 (fun hc => ?_) (fun hc => ?_)
  · rw [if_pos hc] at h
    obtain ⟨o2, h⟩ := sw_ifs h
    cases h
    exact B_X1_fewestMiles_125 (sw_inb_sp o2) ⟨_, rfl, rfl, rfl⟩
  · rw [if_neg hc] at h
    refine B_X1_fewestMiles_35  ?_
    exact LC_X1_fewestMiles_38 hd h26 _ _ _ _ _ _ h
noncomputable def L_X1_fewestMiles_26 : Nat → sw_St → Int32 → Nat → Int32 → Option (Int32 × sw_St)
  | 0, _, _, _, _ => none
  | k + 1, σ, x2, o3, x4 => S_X1_fewestMiles_26 (fun σ x2 o3 x4 => L_X1_fewestMiles_26 k σ x2 o3 x4) σ x2 o3 x4
theorem LC_X1_fewestMiles_26 {E : sw_E} {d : Nat} (hd : 1 ≤ d) {p : Int32 × sw_St} : ∀ (k : Nat) (σ : sw_St) (x2 : Int32) (o3 : Nat) (x4 : Int32), L_X1_fewestMiles_26 k σ x2 o3 x4 = some p → sw_W E sw_gX m_X1_fewestMiles d 26 [(0, .ref 54), (2, .int x2), (3, .ref o3), (4, .int x4)] [] σ (sw_pI p) := by
  intro k
  induction k with
  | zero => intro σ x2 o3 x4 h; cases h
  | succ k ih => intro σ x2 o3 x4 h; exact SC_X1_fewestMiles_26 hd ih h
noncomputable def F_X1_fewestMiles (σ : sw_St) (x1 : Int32) (x2 : Int32) : Option (Int32 × sw_St) :=
  (σ.2.2 33 0).bind fun w1 => ((F_J7_fill_53178 σ 58 (-1)).bind fun q2 => if sw_inb x1 8 = true then (L_X1_fewestMiles_26 sw_fuel (sw_uI q2.2 58 x1.toNatClampNeg 0) x2 w1 1) else none)
theorem FC_X1_fewestMiles {E : sw_E} {d : Nat} (hd : 1 ≤ d) {p : Int32 × sw_St} {σ : sw_St} {x1 : Int32} {x2 : Int32} (h : F_X1_fewestMiles σ x1 x2 = some p) : sw_KI E sw_gX m_X1_fewestMiles d [.ref 54, .int x1, .int x2] σ (fun v s => v = p.1 ∧ s = p.2) := by
  unfold F_X1_fewestMiles at h
  refine sw_K.of (by decide +kernel) rfl (Nat.le_of_ble_eq_true rfl) ?_
  show sw_W E sw_gX m_X1_fewestMiles d 0 [(0, .ref 54), (1, .int x1), (2, .int x2)] [] σ (sw_pI p)
  obtain ⟨w1, ow1, h⟩ := sw_bnd h
  obtain ⟨q2, hq, h⟩ := sw_bnd h
  refine B_X1_fewestMiles_0 ow1 (FC_J7_fill_53178 (Nat.le_refl _) hq) (Nat.lt_of_lt_of_le (by decide) hd) (fun s hvs => ?_)
  subst hvs
  obtain ⟨o3, h⟩ := sw_ifs h
  refine B_X1_fewestMiles_16 (sw_inb_sp o3) ?_
  exact LC_X1_fewestMiles_26 hd _ _ _ _ _ h
/-! StrayWool$Foresight.leastCoat(I)I -/
noncomputable def S_X1_leastCoat_84 (c7 : sw_St → Int32 → Int32 → Int32 → Int32 → Option (Int32 × sw_St)) (σ : sw_St) (x1 : Int32) (x2 : Int32) (x3 : Int32) (x4 : Int32) : Option (Int32 × sw_St) :=
  c7 σ x1 x2 x3 (x4 + 1)
theorem SC_X1_leastCoat_84 {E : sw_E} {d : Nat} (hd : 1 ≤ d) {p : Int32 × sw_St} {c7 : sw_St → Int32 → Int32 → Int32 → Int32 → Option (Int32 × sw_St)} (h7 : ∀ (σ : sw_St) (x1 : Int32) (x2 : Int32) (x3 : Int32) (x4 : Int32), c7 σ x1 x2 x3 x4 = some p → sw_W E sw_gX m_X1_leastCoat d 7 [(0, .ref 54), (1, .int x1), (2, .int x2), (3, .int x3), (4, .int x4)] [] σ (sw_pI p)) {σ : sw_St} {x1 : Int32} {x2 : Int32} {x3 : Int32} {x4 : Int32} (h : S_X1_leastCoat_84 c7 σ x1 x2 x3 x4 = some p) : sw_W E sw_gX m_X1_leastCoat d 84 [(0, .ref 54), (1, .int x1), (2, .int x2), (3, .int x3), (4, .int x4)] [] σ (sw_pI p) := by
  unfold S_X1_leastCoat_84 at h
  refine B_X1_leastCoat_84  ?_
  exact h7 _ _ _ _ _ h
noncomputable def S_X1_leastCoat_78 (c7 : sw_St → Int32 → Int32 → Int32 → Int32 → Option (Int32 × sw_St)) (σ : sw_St) (x1 : Int32) (x4 : Int32) (x5 : Int32) : Option (Int32 × sw_St) :=
  S_X1_leastCoat_84 c7 σ x1 x4 x5 x4
theorem SC_X1_leastCoat_78 {E : sw_E} {d : Nat} (hd : 1 ≤ d) {p : Int32 × sw_St} {c7 : sw_St → Int32 → Int32 → Int32 → Int32 → Option (Int32 × sw_St)} (h7 : ∀ (σ : sw_St) (x1 : Int32) (x2 : Int32) (x3 : Int32) (x4 : Int32), c7 σ x1 x2 x3 x4 = some p → sw_W E sw_gX m_X1_leastCoat d 7 [(0, .ref 54), (1, .int x1), (2, .int x2), (3, .int x3), (4, .int x4)] [] σ (sw_pI p)) {σ : sw_St} {x1 : Int32} {x4 : Int32} {x5 : Int32} (h : S_X1_leastCoat_78 c7 σ x1 x4 x5 = some p) : sw_W E sw_gX m_X1_leastCoat d 78 [(0, .ref 54), (1, .int x1), (4, .int x4), (5, .int x5)] [] σ (sw_pI p) := by
  unfold S_X1_leastCoat_78 at h
  refine B_X1_leastCoat_78  ?_
  exact SC_X1_leastCoat_84 hd h7 h
noncomputable def S_X1_leastCoat_60 (c7 : sw_St → Int32 → Int32 → Int32 → Int32 → Option (Int32 × sw_St)) (σ : sw_St) (x1 : Int32) (x2 : Int32) (x3 : Int32) (x4 : Int32) (x5 : Int32) (sx0 : Int32) : Option (Int32 × sw_St) :=
  if sx0 < 0 then (S_X1_leastCoat_78 c7 σ x1 x4 x5) else (if sx0 = 0 then (if x3 ≤ x5 then (S_X1_leastCoat_84 c7 σ x1 x2 x3 x4) else (S_X1_leastCoat_78 c7 σ x1 x4 x5)) else (S_X1_leastCoat_84 c7 σ x1 x2 x3 x4))
theorem SC_X1_leastCoat_60 {E : sw_E} {d : Nat} (hd : 1 ≤ d) {p : Int32 × sw_St} {c7 : sw_St → Int32 → Int32 → Int32 → Int32 → Option (Int32 × sw_St)} (h7 : ∀ (σ : sw_St) (x1 : Int32) (x2 : Int32) (x3 : Int32) (x4 : Int32), c7 σ x1 x2 x3 x4 = some p → sw_W E sw_gX m_X1_leastCoat d 7 [(0, .ref 54), (1, .int x1), (2, .int x2), (3, .int x3), (4, .int x4)] [] σ (sw_pI p)) {σ : sw_St} {x1 : Int32} {x2 : Int32} {x3 : Int32} {x4 : Int32} {x5 : Int32} {sx0 : Int32} (h : S_X1_leastCoat_60 c7 σ x1 x2 x3 x4 x5 sx0 = some p) : sw_W E sw_gX m_X1_leastCoat d 60 [(0, .ref 54), (1, .int x1), (2, .int x2), (3, .int x3), (4, .int x4), (5, .int x5)] [.int sx0] σ (sw_pI p) := by
  unfold S_X1_leastCoat_60 at h
  refine B_X1_leastCoat_60  (fun hc => ?_) (fun hc => ?_)
  · rw [if_pos hc] at h
    exact SC_X1_leastCoat_78 hd h7 h
  · rw [if_neg hc] at h
    refine B_X1_leastCoat_67  (fun hc => ?_) (fun hc => ?_)
    · rw [if_neg hc] at h
      exact SC_X1_leastCoat_84 hd h7 h
    · rw [if_pos hc] at h
      refine B_X1_leastCoat_72  (fun hc => ?_) (fun hc => ?_)
      · rw [if_pos hc] at h
        exact SC_X1_leastCoat_84 hd h7 h
      · rw [if_neg hc] at h
        exact SC_X1_leastCoat_78 hd h7 h
noncomputable def S_X1_leastCoat_7 (c7 : sw_St → Int32 → Int32 → Int32 → Int32 → Option (Int32 × sw_St)) (σ : sw_St) (x1 : Int32) (x2 : Int32) (x3 : Int32) (x4 : Int32) : Option (Int32 × sw_St) :=
  (σ.2.2 33 0).bind fun w1 => (if sw_isO sw_gX w1 9 = true then (if ((1 : Int32) <<< ((σ.1 w1 3) &&& 31)) ≤ x4 then (some (x2, σ)) else ((F_X1_milesOf σ x4).bind fun q3 => if x1 ≤ q3.1 then (if x2 = (-1) then (S_X1_leastCoat_60 c7 q3.2 x1 x2 x3 x4 q3.1 (-1)) else ((F_J6_bitCount_0f7a4 q3.2 x4).bind fun q4 => (F_J6_bitCount_0f7a4 q4.2 x2).bind fun q5 => S_X1_leastCoat_60 c7 q5.2 x1 x2 x3 x4 q3.1 (q4.1 - q5.1))) else (S_X1_leastCoat_84 c7 q3.2 x1 x2 x3 x4))) else none)
theorem SC_X1_leastCoat_7 {E : sw_E} {d : Nat} (hd : 1 ≤ d) {p : Int32 × sw_St} {c7 : sw_St → Int32 → Int32 → Int32 → Int32 → Option (Int32 × sw_St)} (h7 : ∀ (σ : sw_St) (x1 : Int32) (x2 : Int32) (x3 : Int32) (x4 : Int32), c7 σ x1 x2 x3 x4 = some p → sw_W E sw_gX m_X1_leastCoat d 7 [(0, .ref 54), (1, .int x1), (2, .int x2), (3, .int x3), (4, .int x4)] [] σ (sw_pI p)) {σ : sw_St} {x1 : Int32} {x2 : Int32} {x3 : Int32} {x4 : Int32} (h : S_X1_leastCoat_7 c7 σ x1 x2 x3 x4 = some p) : sw_W E sw_gX m_X1_leastCoat d 7 [(0, .ref 54), (1, .int x1), (2, .int x2), (3, .int x3), (4, .int x4)] [] σ (sw_pI p) := by
  unfold S_X1_leastCoat_7 at h
  obtain ⟨w1, ow1, h⟩ := sw_bnd h
  obtain ⟨o2, h⟩ := sw_ifs h
  refine B_X1_leastCoat_7 ow1 o2 (fun hc => ?_) (fun hc => ?_)
  · rw [if_pos hc] at h
    cases h
    exact B_X1_leastCoat_90  ⟨_, rfl, rfl, rfl⟩
  · rw [if_neg hc] at h
    obtain ⟨q3, hq, h⟩ := sw_bnd h
    refine B_X1_leastCoat_24  (FC_X1_milesOf (Nat.le_refl _) hq) (Nat.lt_of_lt_of_le (by decide) hd) (fun v s hvs => ?_)
    obtain ⟨hv1, hv2⟩ := hvs; subst hv1; subst hv2
    refine B_X1_leastCoat_30  (fun hc => ?_) (fun hc => ?_)
    · rw [if_pos hc] at h
      refine B_X1_leastCoat_41  (fun hc => ?_) (fun hc => ?_)
      · rw [if_neg hc] at h
        obtain ⟨q4, hq, h⟩ := sw_bnd h
        refine B_X1_leastCoat_50  (FC_J6_bitCount_0f7a4 (Nat.le_refl _) hq) (Nat.lt_of_lt_of_le (by decide) hd) (fun v s hvs => ?_)
        obtain ⟨hv1, hv2⟩ := hvs; subst hv1; subst hv2
        obtain ⟨q5, hq, h⟩ := sw_bnd h
        refine B_X1_leastCoat_55  (FC_J6_bitCount_0f7a4 (Nat.le_refl _) hq) (Nat.lt_of_lt_of_le (by decide) hd) (fun v s hvs => ?_)
        obtain ⟨hv1, hv2⟩ := hvs; subst hv1; subst hv2
        refine B_X1_leastCoat_59  ?_
        exact SC_X1_leastCoat_60 hd h7 h
      · rw [if_pos hc] at h
        refine B_X1_leastCoat_46  ?_
        exact SC_X1_leastCoat_60 hd h7 h
    · rw [if_neg hc] at h
      refine B_X1_leastCoat_38  ?_
      exact SC_X1_leastCoat_84 hd h7 h
noncomputable def L_X1_leastCoat_7 : Nat → sw_St → Int32 → Int32 → Int32 → Int32 → Option (Int32 × sw_St)
  | 0, _, _, _, _, _ => none
  | k + 1, σ, x1, x2, x3, x4 => S_X1_leastCoat_7 (fun σ x1 x2 x3 x4 => L_X1_leastCoat_7 k σ x1 x2 x3 x4) σ x1 x2 x3 x4
theorem LC_X1_leastCoat_7 {E : sw_E} {d : Nat} (hd : 1 ≤ d) {p : Int32 × sw_St} : ∀ (k : Nat) (σ : sw_St) (x1 : Int32) (x2 : Int32) (x3 : Int32) (x4 : Int32), L_X1_leastCoat_7 k σ x1 x2 x3 x4 = some p → sw_W E sw_gX m_X1_leastCoat d 7 [(0, .ref 54), (1, .int x1), (2, .int x2), (3, .int x3), (4, .int x4)] [] σ (sw_pI p) := by
  intro k
  induction k with
  | zero => intro σ x1 x2 x3 x4 h; cases h
  | succ k ih => intro σ x1 x2 x3 x4 h; exact SC_X1_leastCoat_7 hd ih h
noncomputable def F_X1_leastCoat (σ : sw_St) (x1 : Int32) : Option (Int32 × sw_St) :=
  L_X1_leastCoat_7 sw_fuel σ x1 (-1) 0 1
theorem FC_X1_leastCoat {E : sw_E} {d : Nat} (hd : 1 ≤ d) {p : Int32 × sw_St} {σ : sw_St} {x1 : Int32} (h : F_X1_leastCoat σ x1 = some p) : sw_KI E sw_gX m_X1_leastCoat d [.ref 54, .int x1] σ (fun v s => v = p.1 ∧ s = p.2) := by
  unfold F_X1_leastCoat at h
  refine sw_K.of (by decide +kernel) rfl (Nat.le_of_ble_eq_true rfl) ?_
  show sw_W E sw_gX m_X1_leastCoat d 0 [(0, .ref 54), (1, .int x1)] [] σ (sw_pI p)
  refine B_X1_leastCoat_0  ?_
  exact LC_X1_leastCoat_7 hd _ _ _ _ _ _ h
/-! StrayWool$Foresight.countWays(III)J -/
noncomputable def S_X1_countWays_155 (c155 : sw_St → Int32 → Nat → Int64 → Int32 → Option (Int64 × sw_St)) (σ : sw_St) (x3 : Int32) (o4 : Nat) (y5 : Int64) (x7 : Int32) : Option (Int64 × sw_St) :=
  if sw_isO sw_gX o4 9 = true then (if (σ.1 o4 1) ≤ x7 then (some (y5, σ)) else ((σ.2.2 54 10).bind fun w2 => (if sw_isA sw_gX w2 3 = true then (if sw_inb ((x7 * 64) + x3) (sw_ln sw_gX w2) = true then (c155 σ x3 o4 (y5 + (σ.2.1 w2 (((x7 * 64) + x3).toNatClampNeg))) (x7 + 1)) else none) else none))) else none
theorem SC_X1_countWays_155 {E : sw_E} {d : Nat} (hd : 1 ≤ d) {p : Int64 × sw_St} {c155 : sw_St → Int32 → Nat → Int64 → Int32 → Option (Int64 × sw_St)} (h155 : ∀ (σ : sw_St) (x3 : Int32) (o4 : Nat) (y5 : Int64) (x7 : Int32), c155 σ x3 o4 y5 x7 = some p → sw_W E sw_gX m_X1_countWays d 155 [(0, .ref 54), (3, .int x3), (4, .ref o4), (5, .long y5), (7, .int x7)] [] σ (sw_pL p)) {σ : sw_St} {x3 : Int32} {o4 : Nat} {y5 : Int64} {x7 : Int32} (h : S_X1_countWays_155 c155 σ x3 o4 y5 x7 = some p) : sw_W E sw_gX m_X1_countWays d 155 [(0, .ref 54), (3, .int x3), (4, .ref o4), (5, .long y5), (7, .int x7)] [] σ (sw_pL p) := by
  unfold S_X1_countWays_155 at h
  obtain ⟨o1, h⟩ := sw_ifs h
  refine B_X1_countWays_155 o1 (fun hc => ?_) (fun hc => ?_)
  · rw [if_pos hc] at h
    cases h
    exact B_X1_countWays_188  ⟨_, rfl, rfl, rfl⟩
  · rw [if_neg hc] at h
    obtain ⟨w2, ow2, h⟩ := sw_bnd h
    obtain ⟨o3, h⟩ := sw_ifs h
    obtain ⟨o4, h⟩ := sw_ifs h
    refine B_X1_countWays_165 ow2 o3 (sw_inb_sp o4) ?_
    exact h155 _ _ _ _ _ h
noncomputable def L_X1_countWays_155 : Nat → sw_St → Int32 → Nat → Int64 → Int32 → Option (Int64 × sw_St)
  | 0, _, _, _, _, _ => none
  | k + 1, σ, x3, o4, y5, x7 => S_X1_countWays_155 (fun σ x3 o4 y5 x7 => L_X1_countWays_155 k σ x3 o4 y5 x7) σ x3 o4 y5 x7
theorem LC_X1_countWays_155 {E : sw_E} {d : Nat} (hd : 1 ≤ d) {p : Int64 × sw_St} : ∀ (k : Nat) (σ : sw_St) (x3 : Int32) (o4 : Nat) (y5 : Int64) (x7 : Int32), L_X1_countWays_155 k σ x3 o4 y5 x7 = some p → sw_W E sw_gX m_X1_countWays d 155 [(0, .ref 54), (3, .int x3), (4, .ref o4), (5, .long y5), (7, .int x7)] [] σ (sw_pL p) := by
  intro k
  induction k with
  | zero => intro σ x3 o4 y5 x7 h; cases h
  | succ k ih => intro σ x3 o4 y5 x7 h; exact SC_X1_countWays_155 hd ih h
noncomputable def S_X1_countWays_117 (c30 : sw_St → Int32 → Int32 → Nat → Int32 → Option (Int64 × sw_St)) (c47 : sw_St → Int32 → Int32 → Nat → Int32 → Int32 → Option (Int64 × sw_St)) (σ : sw_St) (x2 : Int32) (x3 : Int32) (o4 : Nat) (x5 : Int32) (x6 : Int32) : Option (Int64 × sw_St) :=
  c47 σ x2 x3 o4 x5 (x6 + 1)
theorem SC_X1_countWays_117 {E : sw_E} {d : Nat} (hd : 1 ≤ d) {p : Int64 × sw_St} {c30 : sw_St → Int32 → Int32 → Nat → Int32 → Option (Int64 × sw_St)} {c47 : sw_St → Int32 → Int32 → Nat → Int32 → Int32 → Option (Int64 × sw_St)} (h30 : ∀ (σ : sw_St) (x2 : Int32) (x3 : Int32) (o4 : Nat) (x5 : Int32), c30 σ x2 x3 o4 x5 = some p → sw_W E sw_gX m_X1_countWays d 30 [(0, .ref 54), (2, .int x2), (3, .int x3), (4, .ref o4), (5, .int x5)] [] σ (sw_pL p)) (h47 : ∀ (σ : sw_St) (x2 : Int32) (x3 : Int32) (o4 : Nat) (x5 : Int32) (x6 : Int32), c47 σ x2 x3 o4 x5 x6 = some p → sw_W E sw_gX m_X1_countWays d 47 [(0, .ref 54), (2, .int x2), (3, .int x3), (4, .ref o4), (5, .int x5), (6, .int x6)] [] σ (sw_pL p)) {σ : sw_St} {x2 : Int32} {x3 : Int32} {o4 : Nat} {x5 : Int32} {x6 : Int32} (h : S_X1_countWays_117 c30 c47 σ x2 x3 o4 x5 x6 = some p) : sw_W E sw_gX m_X1_countWays d 117 [(0, .ref 54), (2, .int x2), (3, .int x3), (4, .ref o4), (5, .int x5), (6, .int x6)] [] σ (sw_pL p) := by
  unfold S_X1_countWays_117 at h
  refine B_X1_countWays_117  ?_
  exact h47 _ _ _ _ _ _ h
noncomputable def S_X1_countWays_47 (c30 : sw_St → Int32 → Int32 → Nat → Int32 → Option (Int64 × sw_St)) (c47 : sw_St → Int32 → Int32 → Nat → Int32 → Int32 → Option (Int64 × sw_St)) (σ : sw_St) (x2 : Int32) (x3 : Int32) (o4 : Nat) (x5 : Int32) (x6 : Int32) : Option (Int64 × sw_St) :=
  if sw_isO sw_gX o4 9 = true then (if (σ.1 o4 2) ≤ x6 then ((σ.2.2 54 10).bind fun w2 => ((σ.2.2 54 11).bind fun w3 => (c30 (sw_uR (sw_uR σ 54 10 (some w3)) 54 11 (some w2)) x2 x3 o4 (x5 + 1)))) else (if (((σ.1 38 2) >>> (x6 &&& 31)) &&& 1) = 1 then (if sw_isO sw_gX o4 9 = true then (if sw_isA sw_gX (o4 + 3) 0 = true then (if sw_inb x6 (sw_ln sw_gX (o4 + 3)) = true then (if sw_isO sw_gX o4 9 = true then (if sw_isA sw_gX (o4 + 4) 0 = true then (if sw_inb x6 (sw_ln sw_gX (o4 + 4)) = true then ((F_X1_leadEnds σ (σ.1 (o4 + 3) x6.toNatClampNeg) (σ.1 (o4 + 4) x6.toNatClampNeg) x6).bind fun q10 => if sw_isO sw_gX o4 9 = true then (if sw_isA sw_gX (o4 + 4) 0 = true then (if sw_inb x6 (sw_ln sw_gX (o4 + 4)) = true then (if sw_isO sw_gX o4 9 = true then (if sw_isA sw_gX (o4 + 3) 0 = true then (if sw_inb x6 (sw_ln sw_gX (o4 + 3)) = true then ((F_X1_leadEnds q10.2 (q10.2.1 (o4 + 4) x6.toNatClampNeg) (q10.2.1 (o4 + 3) x6.toNatClampNeg) x6).bind fun q17 => S_X1_countWays_117 c30 c47 q17.2 x2 x3 o4 x5 x6) else none) else none) else none) else none) else none) else none) else none) else none) else none) else none) else none) else none) else (S_X1_countWays_117 c30 c47 σ x2 x3 o4 x5 x6))) else none
theorem SC_X1_countWays_47 {E : sw_E} {d : Nat} (hd : 1 ≤ d) {p : Int64 × sw_St} {c30 : sw_St → Int32 → Int32 → Nat → Int32 → Option (Int64 × sw_St)} {c47 : sw_St → Int32 → Int32 → Nat → Int32 → Int32 → Option (Int64 × sw_St)} (h30 : ∀ (σ : sw_St) (x2 : Int32) (x3 : Int32) (o4 : Nat) (x5 : Int32), c30 σ x2 x3 o4 x5 = some p → sw_W E sw_gX m_X1_countWays d 30 [(0, .ref 54), (2, .int x2), (3, .int x3), (4, .ref o4), (5, .int x5)] [] σ (sw_pL p)) (h47 : ∀ (σ : sw_St) (x2 : Int32) (x3 : Int32) (o4 : Nat) (x5 : Int32) (x6 : Int32), c47 σ x2 x3 o4 x5 x6 = some p → sw_W E sw_gX m_X1_countWays d 47 [(0, .ref 54), (2, .int x2), (3, .int x3), (4, .ref o4), (5, .int x5), (6, .int x6)] [] σ (sw_pL p)) {σ : sw_St} {x2 : Int32} {x3 : Int32} {o4 : Nat} {x5 : Int32} {x6 : Int32} (h : S_X1_countWays_47 c30 c47 σ x2 x3 o4 x5 x6 = some p) : sw_W E sw_gX m_X1_countWays d 47 [(0, .ref 54), (2, .int x2), (3, .int x3), (4, .ref o4), (5, .int x5), (6, .int x6)] [] σ (sw_pL p) := by
  unfold S_X1_countWays_47 at h
  obtain ⟨o1, h⟩ := sw_ifs h
  refine B_X1_countWays_47 o1 (fun hc => ?_) (fun hc => ?_)
  · rw [if_pos hc] at h
    obtain ⟨w2, ow2, h⟩ := sw_bnd h
    obtain ⟨w3, ow3, h⟩ := sw_bnd h
    refine B_X1_countWays_123 ow2 ow3 ?_
    exact h30 _ _ _ _ _ h
  · rw [if_neg hc] at h
    refine B_X1_countWays_57  (fun hc => ?_) (fun hc => ?_)
    · rw [if_neg hc] at h
      exact SC_X1_countWays_117 hd h30 h47 h
    · rw [if_pos hc] at h
      obtain ⟨o4, h⟩ := sw_ifs h
      obtain ⟨o5, h⟩ := sw_ifs h
      obtain ⟨o6, h⟩ := sw_ifs h
      obtain ⟨o7, h⟩ := sw_ifs h
      obtain ⟨o8, h⟩ := sw_ifs h
      obtain ⟨o9, h⟩ := sw_ifs h
      obtain ⟨q10, hq, h⟩ := sw_bnd h
      refine B_X1_countWays_73 o4 o5 (sw_inb_sp o6) o7 o8 (sw_inb_sp o9) (FC_X1_leadEnds (Nat.le_refl _) hq) (Nat.lt_of_lt_of_le (by decide) hd) (fun s hvs => ?_)
      subst hvs
      obtain ⟨o11, h⟩ := sw_ifs h
      obtain ⟨o12, h⟩ := sw_ifs h
      obtain ⟨o13, h⟩ := sw_ifs h
      obtain ⟨o14, h⟩ := sw_ifs h
      obtain ⟨o15, h⟩ := sw_ifs h
      obtain ⟨o16, h⟩ := sw_ifs h
      obtain ⟨q17, hq, h⟩ := sw_bnd h
      refine B_X1_countWays_95 o11 o12 (sw_inb_sp o13) o14 o15 (sw_inb_sp o16) (FC_X1_leadEnds (Nat.le_refl _) hq) (Nat.lt_of_lt_of_le (by decide) hd) (fun s hvs => ?_)
      subst hvs
      exact SC_X1_countWays_117 hd h30 h47 h
noncomputable def L_X1_countWays_47 (c30 : sw_St → Int32 → Int32 → Nat → Int32 → Option (Int64 × sw_St)) : Nat → sw_St → Int32 → Int32 → Nat → Int32 → Int32 → Option (Int64 × sw_St)
  | 0, _, _, _, _, _, _ => none
  | k + 1, σ, x2, x3, o4, x5, x6 => S_X1_countWays_47 c30 (fun σ x2 x3 o4 x5 x6 => L_X1_countWays_47 c30 k σ x2 x3 o4 x5 x6) σ x2 x3 o4 x5 x6
theorem LC_X1_countWays_47 {E : sw_E} {d : Nat} (hd : 1 ≤ d) {p : Int64 × sw_St} {c30 : sw_St → Int32 → Int32 → Nat → Int32 → Option (Int64 × sw_St)} (h30 : ∀ (σ : sw_St) (x2 : Int32) (x3 : Int32) (o4 : Nat) (x5 : Int32), c30 σ x2 x3 o4 x5 = some p → sw_W E sw_gX m_X1_countWays d 30 [(0, .ref 54), (2, .int x2), (3, .int x3), (4, .ref o4), (5, .int x5)] [] σ (sw_pL p)) : ∀ (k : Nat) (σ : sw_St) (x2 : Int32) (x3 : Int32) (o4 : Nat) (x5 : Int32) (x6 : Int32), L_X1_countWays_47 c30 k σ x2 x3 o4 x5 x6 = some p → sw_W E sw_gX m_X1_countWays d 47 [(0, .ref 54), (2, .int x2), (3, .int x3), (4, .ref o4), (5, .int x5), (6, .int x6)] [] σ (sw_pL p) := by
  intro k
  induction k with
  | zero => intro σ x2 x3 o4 x5 x6 h; cases h
  | succ k ih => intro σ x2 x3 o4 x5 x6 h; exact SC_X1_countWays_47 hd h30 ih h
noncomputable def S_X1_countWays_30 (c30 : sw_St → Int32 → Int32 → Nat → Int32 → Option (Int64 × sw_St)) (σ : sw_St) (x2 : Int32) (x3 : Int32) (o4 : Nat) (x5 : Int32) : Option (Int64 × sw_St) :=
  if x2 ≤ x5 then (L_X1_countWays_155 sw_fuel σ x3 o4 0 0) else ((σ.2.2 54 11).bind fun w1 => ((F_J7_fill_d0a16 σ w1 0).bind fun q2 => L_X1_countWays_47 c30 sw_fuel q2.2 x2 x3 o4 x5 0))
theorem SC_X1_countWays_30 {E : sw_E} {d : Nat} (hd : 1 ≤ d) {p : Int64 × sw_St} {c30 : sw_St → Int32 → Int32 → Nat → Int32 → Option (Int64 × sw_St)} (h30 : ∀ (σ : sw_St) (x2 : Int32) (x3 : Int32) (o4 : Nat) (x5 : Int32), c30 σ x2 x3 o4 x5 = some p → sw_W E sw_gX m_X1_countWays d 30 [(0, .ref 54), (2, .int x2), (3, .int x3), (4, .ref o4), (5, .int x5)] [] σ (sw_pL p)) {σ : sw_St} {x2 : Int32} {x3 : Int32} {o4 : Nat} {x5 : Int32} (h : S_X1_countWays_30 c30 σ x2 x3 o4 x5 = some p) : sw_W E sw_gX m_X1_countWays d 30 [(0, .ref 54), (2, .int x2), (3, .int x3), (4, .ref o4), (5, .int x5)] [] σ (sw_pL p) := by
  unfold S_X1_countWays_30 at h
  refine B_X1_countWays_30  (fun hc => ?_) (fun hc => ?_)
  · rw [if_pos hc] at h
    refine B_X1_countWays_149  ?_
    exact LC_X1_countWays_155 hd _ _ _ _ _ _ h
  · rw [if_neg hc] at h
    obtain ⟨w1, ow1, h⟩ := sw_bnd h
    obtain ⟨q2, hq, h⟩ := sw_bnd h
    refine B_X1_countWays_36 ow1 (FC_J7_fill_d0a16 (Nat.le_refl _) hq) (Nat.lt_of_lt_of_le (by decide) hd) (fun s hvs => ?_)
    subst hvs
    refine B_X1_countWays_44  ?_
    exact LC_X1_countWays_47 hd h30 _ _ _ _ _ _ _ h
noncomputable def L_X1_countWays_30 : Nat → sw_St → Int32 → Int32 → Nat → Int32 → Option (Int64 × sw_St)
  | 0, _, _, _, _, _ => none
  | k + 1, σ, x2, x3, o4, x5 => S_X1_countWays_30 (fun σ x2 x3 o4 x5 => L_X1_countWays_30 k σ x2 x3 o4 x5) σ x2 x3 o4 x5
theorem LC_X1_countWays_30 {E : sw_E} {d : Nat} (hd : 1 ≤ d) {p : Int64 × sw_St} : ∀ (k : Nat) (σ : sw_St) (x2 : Int32) (x3 : Int32) (o4 : Nat) (x5 : Int32), L_X1_countWays_30 k σ x2 x3 o4 x5 = some p → sw_W E sw_gX m_X1_countWays d 30 [(0, .ref 54), (2, .int x2), (3, .int x3), (4, .ref o4), (5, .int x5)] [] σ (sw_pL p) := by
  intro k
  induction k with
  | zero => intro σ x2 x3 o4 x5 h; cases h
  | succ k ih => intro σ x2 x3 o4 x5 h; exact SC_X1_countWays_30 hd ih h
noncomputable def F_X1_countWays (σ : sw_St) (x1 : Int32) (x2 : Int32) (x3 : Int32) : Option (Int64 × sw_St) :=
  (σ.2.2 33 0).bind fun w1 => ((σ.2.2 54 10).bind fun w2 => ((F_J7_fill_d0a16 σ w2 0).bind fun q3 => (q3.2.2.2 54 10).bind fun w4 => (if sw_isA sw_gX w4 3 = true then (if sw_inb (x1 * 64) (sw_ln sw_gX w4) = true then (L_X1_countWays_30 sw_fuel (sw_uL q3.2 w4 ((x1 * 64).toNatClampNeg) 1) x2 x3 w1 0) else none) else none)))
theorem FC_X1_countWays {E : sw_E} {d : Nat} (hd : 1 ≤ d) {p : Int64 × sw_St} {σ : sw_St} {x1 : Int32} {x2 : Int32} {x3 : Int32} (h : F_X1_countWays σ x1 x2 x3 = some p) : sw_KL E sw_gX m_X1_countWays d [.ref 54, .int x1, .int x2, .int x3] σ (fun v s => v = p.1 ∧ s = p.2) := by
  unfold F_X1_countWays at h
  refine sw_K.of (by decide +kernel) rfl (Nat.le_of_ble_eq_true rfl) ?_
  show sw_W E sw_gX m_X1_countWays d 0 [(0, .ref 54), (1, .int x1), (2, .int x2), (3, .int x3)] [] σ (sw_pL p)
  obtain ⟨w1, ow1, h⟩ := sw_bnd h
  obtain ⟨w2, ow2, h⟩ := sw_bnd h
  obtain ⟨q3, hq, h⟩ := sw_bnd h
  refine B_X1_countWays_0 ow1 ow2 (FC_J7_fill_d0a16 (Nat.le_refl _) hq) (Nat.lt_of_lt_of_le (by decide) hd) (fun s hvs => ?_)
  subst hvs
  obtain ⟨w4, ow4, h⟩ := sw_bnd h
  obtain ⟨o5, h⟩ := sw_ifs h
  obtain ⟨o6, h⟩ := sw_ifs h
  refine B_X1_countWays_17 ow4 o5 (sw_inb_sp o6) ?_
  exact LC_X1_countWays_30 hd _ _ _ _ _ _ h
/-! StrayWool$Foresight.mostLeft(II)I -/
noncomputable def S_X1_mostLeft_53 (c5 : sw_St → Int32 → Int32 → Int32 → Int32 → Option (Int32 × sw_St)) (σ : sw_St) (x1 : Int32) (x2 : Int32) (x3 : Int32) (x4 : Int32) : Option (Int32 × sw_St) :=
  c5 σ x1 x2 x3 (x4 + 1)
theorem SC_X1_mostLeft_53 {E : sw_E} {d : Nat} (hd : 1 ≤ d) {p : Int32 × sw_St} {c5 : sw_St → Int32 → Int32 → Int32 → Int32 → Option (Int32 × sw_St)} (h5 : ∀ (σ : sw_St) (x1 : Int32) (x2 : Int32) (x3 : Int32) (x4 : Int32), c5 σ x1 x2 x3 x4 = some p → sw_W E sw_gX m_X1_mostLeft d 5 [(0, .ref 54), (1, .int x1), (2, .int x2), (3, .int x3), (4, .int x4)] [] σ (sw_pI p)) {σ : sw_St} {x1 : Int32} {x2 : Int32} {x3 : Int32} {x4 : Int32} (h : S_X1_mostLeft_53 c5 σ x1 x2 x3 x4 = some p) : sw_W E sw_gX m_X1_mostLeft d 53 [(0, .ref 54), (1, .int x1), (2, .int x2), (3, .int x3), (4, .int x4)] [] σ (sw_pI p) := by
  unfold S_X1_mostLeft_53 at h
  refine B_X1_mostLeft_53  ?_
  exact h5 _ _ _ _ _ h
noncomputable def S_X1_mostLeft_5 (c5 : sw_St → Int32 → Int32 → Int32 → Int32 → Option (Int32 × sw_St)) (σ : sw_St) (x1 : Int32) (x2 : Int32) (x3 : Int32) (x4 : Int32) : Option (Int32 × sw_St) :=
  if 10 ≤ x4 then (some (x3, σ)) else (if ((x2 >>> (x4 &&& 31)) &&& 1) = 1 then (if sw_inb ((x4 * 31) + x1) 310 = true then ((F_X1_curiousBy σ x1 (σ.1 57 (((x4 * 31) + x1).toNatClampNeg))).bind fun q2 => (F_J6_bitCount_0f7a4 q2.2 (q2.1 &&& x2)).bind fun q3 => (F_J9_max_7cf53 q3.2 x3 q3.1).bind fun q4 => S_X1_mostLeft_53 c5 q4.2 x1 x2 q4.1 x4) else none) else (S_X1_mostLeft_53 c5 σ x1 x2 x3 x4))
theorem SC_X1_mostLeft_5 {E : sw_E} {d : Nat} (hd : 1 ≤ d) {p : Int32 × sw_St} {c5 : sw_St → Int32 → Int32 → Int32 → Int32 → Option (Int32 × sw_St)} (h5 : ∀ (σ : sw_St) (x1 : Int32) (x2 : Int32) (x3 : Int32) (x4 : Int32), c5 σ x1 x2 x3 x4 = some p → sw_W E sw_gX m_X1_mostLeft d 5 [(0, .ref 54), (1, .int x1), (2, .int x2), (3, .int x3), (4, .int x4)] [] σ (sw_pI p)) {σ : sw_St} {x1 : Int32} {x2 : Int32} {x3 : Int32} {x4 : Int32} (h : S_X1_mostLeft_5 c5 σ x1 x2 x3 x4 = some p) : sw_W E sw_gX m_X1_mostLeft d 5 [(0, .ref 54), (1, .int x1), (2, .int x2), (3, .int x3), (4, .int x4)] [] σ (sw_pI p) := by
  unfold S_X1_mostLeft_5 at h
  refine B_X1_mostLeft_5  (fun hc => ?_) (fun hc => ?_)
  · rw [if_pos hc] at h
    cases h
    exact B_X1_mostLeft_59  ⟨_, rfl, rfl, rfl⟩
  · rw [if_neg hc] at h
    refine B_X1_mostLeft_12  (fun hc => ?_) (fun hc => ?_)
    · rw [if_neg hc] at h
      exact SC_X1_mostLeft_53 hd h5 h
    · rw [if_pos hc] at h
      obtain ⟨o1, h⟩ := sw_ifs h
      obtain ⟨q2, hq, h⟩ := sw_bnd h
      refine B_X1_mostLeft_22 (sw_inb_sp o1) (FC_X1_curiousBy (Nat.le_refl _) hq) (Nat.lt_of_lt_of_le (by decide) hd) (fun v s hvs => ?_)
      obtain ⟨hv1, hv2⟩ := hvs; subst hv1; subst hv2
      obtain ⟨q3, hq, h⟩ := sw_bnd h
      refine B_X1_mostLeft_39  (FC_J6_bitCount_0f7a4 (Nat.le_refl _) hq) (Nat.lt_of_lt_of_le (by decide) hd) (fun v s hvs => ?_)
      obtain ⟨hv1, hv2⟩ := hvs; subst hv1; subst hv2
      obtain ⟨q4, hq, h⟩ := sw_bnd h
      refine B_X1_mostLeft_49  (FC_J9_max_7cf53 (Nat.le_refl _) hq) (Nat.lt_of_lt_of_le (by decide) hd) (fun v s hvs => ?_)
      obtain ⟨hv1, hv2⟩ := hvs; subst hv1; subst hv2
      refine B_X1_mostLeft_52  ?_
      exact SC_X1_mostLeft_53 hd h5 h
noncomputable def L_X1_mostLeft_5 : Nat → sw_St → Int32 → Int32 → Int32 → Int32 → Option (Int32 × sw_St)
  | 0, _, _, _, _, _ => none
  | k + 1, σ, x1, x2, x3, x4 => S_X1_mostLeft_5 (fun σ x1 x2 x3 x4 => L_X1_mostLeft_5 k σ x1 x2 x3 x4) σ x1 x2 x3 x4
theorem LC_X1_mostLeft_5 {E : sw_E} {d : Nat} (hd : 1 ≤ d) {p : Int32 × sw_St} : ∀ (k : Nat) (σ : sw_St) (x1 : Int32) (x2 : Int32) (x3 : Int32) (x4 : Int32), L_X1_mostLeft_5 k σ x1 x2 x3 x4 = some p → sw_W E sw_gX m_X1_mostLeft d 5 [(0, .ref 54), (1, .int x1), (2, .int x2), (3, .int x3), (4, .int x4)] [] σ (sw_pI p) := by
  intro k
  induction k with
  | zero => intro σ x1 x2 x3 x4 h; cases h
  | succ k ih => intro σ x1 x2 x3 x4 h; exact SC_X1_mostLeft_5 hd ih h
noncomputable def F_X1_mostLeft (σ : sw_St) (x1 : Int32) (x2 : Int32) : Option (Int32 × sw_St) :=
  L_X1_mostLeft_5 sw_fuel σ x1 x2 0 0
theorem FC_X1_mostLeft {E : sw_E} {d : Nat} (hd : 1 ≤ d) {p : Int32 × sw_St} {σ : sw_St} {x1 : Int32} {x2 : Int32} (h : F_X1_mostLeft σ x1 x2 = some p) : sw_KI E sw_gX m_X1_mostLeft d [.ref 54, .int x1, .int x2] σ (fun v s => v = p.1 ∧ s = p.2) := by
  unfold F_X1_mostLeft at h
  refine sw_K.of (by decide +kernel) rfl (Nat.le_of_ble_eq_true rfl) ?_
  show sw_W E sw_gX m_X1_mostLeft d 0 [(0, .ref 54), (1, .int x1), (2, .int x2)] [] σ (sw_pI p)
  refine B_X1_mostLeft_0  ?_
  exact LC_X1_mostLeft_5 hd _ _ _ _ _ _ h
/-! StrayWool$Hill.leads(LStrayWool$State;II)Z -/
noncomputable def S_X2_leads_35 (σ : sw_St) (sx0 : Int32) : Option (Int32 × sw_St) :=
  if sx0 = 0 ∨ sx0 = 1 then some (sx0, σ) else none
theorem SC_X2_leads_35 {E : sw_E} {d : Nat} (hd : 1 ≤ d) {p : Int32 × sw_St} {σ : sw_St} {sx0 : Int32} (h : S_X2_leads_35 σ sx0 = some p) : sw_W E sw_gX m_X2_leads d 35 [] [.int sx0] σ (sw_pI p) := by
  unfold S_X2_leads_35 at h
  obtain ⟨hz, h⟩ := sw_ifs h
  cases h
  exact B_X2_leads_35  hz ⟨_, rfl, rfl, rfl⟩
noncomputable def S_X2_leads_34 (σ : sw_St) : Option (Int32 × sw_St) :=
  S_X2_leads_35 σ 0
theorem SC_X2_leads_34 {E : sw_E} {d : Nat} (hd : 1 ≤ d) {p : Int32 × sw_St} {σ : sw_St} (h : S_X2_leads_34 σ  = some p) : sw_W E sw_gX m_X2_leads d 34 [] [] σ (sw_pI p) := by
  unfold S_X2_leads_34 at h
  refine B_X2_leads_34  ?_
  exact SC_X2_leads_35 hd h
noncomputable def F_X2_leads (σ : sw_St) (o1 : Nat) (x2 : Int32) (x3 : Int32) : Option (Int32 × sw_St) :=
  if sw_isO sw_gX o1 8 = true then (if (((σ.1 o1 2) >>> (x3 &&& 31)) &&& 1) = 1 then ((σ.2.2 33 0).bind fun w2 => (if sw_isO sw_gX o1 8 = true then (if sw_isA sw_gX (o1 + 1) 0 = true then (if sw_inb x2 (sw_ln sw_gX (o1 + 1)) = true then (if sw_isO sw_gX w2 9 = true then ((F_X9_beyond σ w2 x3 (σ.1 (o1 + 1) x2.toNatClampNeg)).bind fun q6 => if q6.1 = (-1) then (S_X2_leads_34 q6.2 ) else (S_X2_leads_35 q6.2 1)) else none) else none) else none) else none)) else (S_X2_leads_34 σ )) else none
theorem FC_X2_leads {E : sw_E} {d : Nat} (hd : 1 ≤ d) {p : Int32 × sw_St} {σ : sw_St} {o1 : Nat} {x2 : Int32} {x3 : Int32} (h : F_X2_leads σ o1 x2 x3 = some p) : sw_KI E sw_gX m_X2_leads d [.ref 33, .ref o1, .int x2, .int x3] σ (fun v s => v = p.1 ∧ s = p.2) := by
  unfold F_X2_leads at h
  refine sw_K.of (by decide +kernel) rfl (Nat.le_of_ble_eq_true rfl) ?_
  show sw_W E sw_gX m_X2_leads d 0 [(0, .ref 33), (1, .ref o1), (2, .int x2), (3, .int x3)] [] σ (sw_pI p)
  obtain ⟨o1, h⟩ := sw_ifs h
  refine B_X2_leads_0 o1 (fun hc => ?_) (fun hc => ?_)
  · rw [if_neg hc] at h
    exact SC_X2_leads_34 hd h
  · rw [if_pos hc] at h
    obtain ⟨w2, ow2, h⟩ := sw_bnd h
    obtain ⟨o3, h⟩ := sw_ifs h
    obtain ⟨o4, h⟩ := sw_ifs h
    obtain ⟨o5, h⟩ := sw_ifs h
    obtain ⟨o7, h⟩ := sw_ifs h
    obtain ⟨q6, hq, h⟩ := sw_bnd h
    refine B_X2_leads_12 ow2 o3 o4 (sw_inb_sp o5) (FC_X9_beyond (Nat.le_refl _) hq) (Nat.lt_of_lt_of_le (by decide) hd) (fun v s hvs => ?_) o7
    obtain ⟨hv1, hv2⟩ := hvs; subst hv1; subst hv2
    refine B_X2_leads_26  (fun hc => ?_) (fun hc => ?_)
    · rw [if_pos hc] at h
      exact SC_X2_leads_34 hd h
    · rw [if_neg hc] at h
      refine B_X2_leads_30  ?_
      exact SC_X2_leads_35 hd h
/-! StrayWool$Hill.passThrough(LStrayWool$State;II)V -/
noncomputable def F_X2_passThrough (σ : sw_St) (o1 : Nat) (x2 : Int32) (x3 : Int32) : Option (Unit × sw_St) :=
  (σ.2.2 33 0).bind fun w1 => (if sw_isO sw_gX o1 8 = true then (if sw_isA sw_gX (o1 + 1) 0 = true then (if sw_inb x2 (sw_ln sw_gX (o1 + 1)) = true then (if sw_isO sw_gX w1 9 = true then ((F_X9_beyond σ w1 x3 (σ.1 (o1 + 1) x2.toNatClampNeg)).bind fun q5 => if q5.1 = (-1) then (some ((), q5.2)) else (if sw_isO sw_gX o1 8 = true then (if sw_isA sw_gX (o1 + 1) 0 = true then (if sw_inb x2 (sw_ln sw_gX (o1 + 1)) = true then (if sw_isO sw_gX o1 8 = true then (if sw_isO sw_gX o1 8 = true then (if sw_isA sw_gX (o1 + 6) 0 = true then (if sw_inb ((x2 * 8) + q5.1) (sw_ln sw_gX (o1 + 6)) = true then ((F_J9_min_7cf53 (sw_uI q5.2 (o1 + 1) x2.toNatClampNeg q5.1) 99 (((sw_uI q5.2 (o1 + 1) x2.toNatClampNeg q5.1).1 (o1 + 6) (((x2 * 8) + q5.1).toNatClampNeg)) + 1)).bind fun q14 => if sw_isA sw_gX (o1 + 6) 0 = true then (if sw_inb ((x2 * 8) + q5.1) (sw_ln sw_gX (o1 + 6)) = true then (if sw_isO sw_gX o1 8 = true then (if sw_isO sw_gX o1 8 = true then (if sw_isA sw_gX (o1 + 2) 0 = true then (if sw_inb x2 (sw_ln sw_gX (o1 + 2)) = true then ((q14.2.2.2 33 0).bind fun w21 => (if sw_isO sw_gX w21 9 = true then (if sw_isA sw_gX (w21 + 5) 0 = true then (if sw_inb x3 (sw_ln sw_gX (w21 + 5)) = true then ((F_J9_min_7cf53 (sw_uI q14.2 (o1 + 6) ((x2 * 8) + q5.1).toNatClampNeg q14.1) 999 (((sw_uI q14.2 (o1 + 6) ((x2 * 8) + q5.1).toNatClampNeg q14.1).1 (o1 + 2) x2.toNatClampNeg) + ((sw_uI q14.2 (o1 + 6) ((x2 * 8) + q5.1).toNatClampNeg q14.1).1 (w21 + 5) x3.toNatClampNeg))).bind fun q25 => if sw_isA sw_gX (o1 + 2) 0 = true then (if sw_inb x2 (sw_ln sw_gX (o1 + 2)) = true then (if sw_isO sw_gX o1 8 = true then (if sw_isO sw_gX o1 8 = true then (if sw_isA sw_gX (o1 + 3) 0 = true then (if sw_inb x2 (sw_ln sw_gX (o1 + 3)) = true then (if sw_isA sw_gX (o1 + 3) 0 = true then (if sw_inb x2 (sw_ln sw_gX (o1 + 3)) = true then (some ((), (sw_uI (sw_uI q25.2 (o1 + 2) x2.toNatClampNeg q25.1) (o1 + 3) x2.toNatClampNeg ((((3 * ((sw_uI q25.2 (o1 + 2) x2.toNatClampNeg q25.1).1 (o1 + 3) x2.toNatClampNeg)) + x3) + 1) - (((3 * ((sw_uI q25.2 (o1 + 2) x2.toNatClampNeg q25.1).1 (o1 + 3) x2.toNatClampNeg)) + x3) + 1) / 64 * 64)))) else none) else none) else none) else none) else none) else none) else none) else none) else none) else none) else none)) else none) else none) else none) else none) else none) else none) else none) else none) else none) else none) else none) else none) else none)) else none) else none) else none) else none)
theorem FC_X2_passThrough {E : sw_E} {d : Nat} (hd : 1 ≤ d) {p : Unit × sw_St} {σ : sw_St} {o1 : Nat} {x2 : Int32} {x3 : Int32} (h : F_X2_passThrough σ o1 x2 x3 = some p) : sw_KV E sw_gX m_X2_passThrough d [.ref 33, .ref o1, .int x2, .int x3] σ (fun s => s = p.2) := by
  unfold F_X2_passThrough at h
  refine sw_K.of (by decide +kernel) rfl (Nat.le_of_ble_eq_true rfl) ?_
  show sw_W E sw_gX m_X2_passThrough d 0 [(0, .ref 33), (1, .ref o1), (2, .int x2), (3, .int x3)] [] σ (sw_pV p)
  obtain ⟨w1, ow1, h⟩ := sw_bnd h
  obtain ⟨o2, h⟩ := sw_ifs h
  obtain ⟨o3, h⟩ := sw_ifs h
  obtain ⟨o4, h⟩ := sw_ifs h
  obtain ⟨o6, h⟩ := sw_ifs h
  obtain ⟨q5, hq, h⟩ := sw_bnd h
  refine B_X2_passThrough_0 ow1 o2 o3 (sw_inb_sp o4) (FC_X9_beyond (Nat.le_refl _) hq) (Nat.lt_of_lt_of_le (by decide) hd) (fun v s hvs => ?_) o6
  obtain ⟨hv1, hv2⟩ := hvs; subst hv1; subst hv2
  refine B_X2_passThrough_14  (fun hc => ?_) (fun hc => ?_)
  · rw [if_neg hc] at h
    obtain ⟨o7, h⟩ := sw_ifs h
    obtain ⟨o8, h⟩ := sw_ifs h
    obtain ⟨o9, h⟩ := sw_ifs h
    obtain ⟨o10, h⟩ := sw_ifs h
    obtain ⟨o11, h⟩ := sw_ifs h
    obtain ⟨o12, h⟩ := sw_ifs h
    obtain ⟨o13, h⟩ := sw_ifs h
    obtain ⟨q14, hq, h⟩ := sw_bnd h
    refine B_X2_passThrough_23 o7 o8 (sw_inb_sp o9) o10 o11 o12 (sw_inb_sp o13) (FC_J9_min_7cf53 (Nat.le_refl _) hq) (Nat.lt_of_lt_of_le (by decide) hd) (fun v s hvs => ?_)
    obtain ⟨hv1, hv2⟩ := hvs; subst hv1; subst hv2
    obtain ⟨o15, h⟩ := sw_ifs h
    obtain ⟨o16, h⟩ := sw_ifs h
    obtain ⟨o17, h⟩ := sw_ifs h
    obtain ⟨o18, h⟩ := sw_ifs h
    obtain ⟨o19, h⟩ := sw_ifs h
    obtain ⟨o20, h⟩ := sw_ifs h
    obtain ⟨w21, ow21, h⟩ := sw_bnd h
    obtain ⟨o22, h⟩ := sw_ifs h
    obtain ⟨o23, h⟩ := sw_ifs h
    obtain ⟨o24, h⟩ := sw_ifs h
    obtain ⟨q25, hq, h⟩ := sw_bnd h
    refine B_X2_passThrough_60 o15 (sw_inb_sp o16) o17 o18 o19 (sw_inb_sp o20) ow21 o22 o23 (sw_inb_sp o24) (FC_J9_min_7cf53 (Nat.le_refl _) hq) (Nat.lt_of_lt_of_le (by decide) hd) (fun v s hvs => ?_)
    obtain ⟨hv1, hv2⟩ := hvs; subst hv1; subst hv2
    obtain ⟨o26, h⟩ := sw_ifs h
    obtain ⟨o27, h⟩ := sw_ifs h
    obtain ⟨o28, h⟩ := sw_ifs h
    obtain ⟨o29, h⟩ := sw_ifs h
    obtain ⟨o30, h⟩ := sw_ifs h
    obtain ⟨o31, h⟩ := sw_ifs h
    obtain ⟨o32, h⟩ := sw_ifs h
    obtain ⟨o33, h⟩ := sw_ifs h
    cases h
    exact B_X2_passThrough_88 o26 (sw_inb_sp o27) o28 o29 o30 (sw_inb_sp o31) o32 (sw_inb_sp o33) ⟨rfl, rfl⟩
  · rw [if_pos hc] at h
    cases h
    exact B_X2_passThrough_22  ⟨rfl, rfl⟩
/-! StrayWool$Past.remember(LStrayWool$State;)V -/
noncomputable def F_X4_remember (σ : sw_St) (o1 : Nat) : Option (Unit × sw_St) :=
  if sw_inb (σ.1 62 1) 20 = true then ((σ.2.2 63 ((σ.1 62 1).toNatClampNeg)).bind fun w2 => (if sw_isO sw_gX w2 8 = true then ((F_X8_copyFrom σ w2 o1).bind fun q3 => (F_J9_min_7cf53 (sw_uI q3.2 62 1 (((q3.2.1 62 1) + 1) - ((q3.2.1 62 1) + 1) / 20 * 20)) 20 ((q3.2.1 62 2) + 1)).bind fun q5 => some ((), (sw_uI q5.2 62 2 q5.1))) else none)) else none
theorem FC_X4_remember {E : sw_E} {d : Nat} (hd : 2 ≤ d) {p : Unit × sw_St} {σ : sw_St} {o1 : Nat} (h : F_X4_remember σ o1 = some p) : sw_KV E sw_gX m_X4_remember d [.ref 62, .ref o1] σ (fun s => s = p.2) := by
  unfold F_X4_remember at h
  refine sw_K.of (by decide +kernel) rfl (Nat.le_of_ble_eq_true rfl) ?_
  show sw_W E sw_gX m_X4_remember d 0 [(0, .ref 62), (1, .ref o1)] [] σ (sw_pV p)
  obtain ⟨o1, h⟩ := sw_ifs h
  obtain ⟨w2, ow2, h⟩ := sw_bnd h
  obtain ⟨o4, h⟩ := sw_ifs h
  obtain ⟨q3, hq, h⟩ := sw_bnd h
  refine B_X4_remember_0 (sw_inb_sp o1) ow2 (FC_X8_copyFrom (Nat.le_refl _) hq) (Nat.lt_of_lt_of_le (by decide) hd) (fun s hvs => ?_) o4
  subst hvs
  obtain ⟨q5, hq, h⟩ := sw_bnd h
  refine B_X4_remember_13  (FC_J9_min_7cf53 (Nat.le_refl _) hq) (Nat.lt_of_lt_of_le (by decide) hd) (fun v s hvs => ?_)
  obtain ⟨hv1, hv2⟩ := hvs; subst hv1; subst hv2
  cases h
  exact B_X4_remember_38  ⟨rfl, rfl⟩
/-! StrayWool$Past.restore(LStrayWool$State;)V -/
noncomputable def F_X4_restore (σ : sw_St) (o1 : Nat) : Option (Unit × sw_St) :=
  if sw_inb ((((σ.1 62 1) + 20) - 1) - (((σ.1 62 1) + 20) - 1) / 20 * 20) 20 = true then ((σ.2.2 63 (((((σ.1 62 1) + 20) - 1) - (((σ.1 62 1) + 20) - 1) / 20 * 20).toNatClampNeg)).bind fun w2 => (if sw_isO sw_gX o1 8 = true then ((F_X8_copyFrom (sw_uI (sw_uI σ 62 1 ((((σ.1 62 1) + 20) - 1) - (((σ.1 62 1) + 20) - 1) / 20 * 20)) 62 2 ((σ.1 62 2) - 1)) o1 w2).bind fun q3 => some ((), q3.2)) else none)) else none
theorem FC_X4_restore {E : sw_E} {d : Nat} (hd : 2 ≤ d) {p : Unit × sw_St} {σ : sw_St} {o1 : Nat} (h : F_X4_restore σ o1 = some p) : sw_KV E sw_gX m_X4_restore d [.ref 62, .ref o1] σ (fun s => s = p.2) := by
  unfold F_X4_restore at h
  refine sw_K.of (by decide +kernel) rfl (Nat.le_of_ble_eq_true rfl) ?_
  show sw_W E sw_gX m_X4_restore d 0 [(0, .ref 62), (1, .ref o1)] [] σ (sw_pV p)
  obtain ⟨o1, h⟩ := sw_ifs h
  obtain ⟨w2, ow2, h⟩ := sw_bnd h
  obtain ⟨o4, h⟩ := sw_ifs h
  obtain ⟨q3, hq, h⟩ := sw_bnd h
  refine B_X4_restore_0 (sw_inb_sp o1) ow2 (FC_X8_copyFrom (Nat.le_refl _) hq) (Nat.lt_of_lt_of_le (by decide) hd) (fun s hvs => ?_) o4
  subst hvs
  cases h
  exact B_X4_restore_39  ⟨rfl, rfl⟩
/-! StrayWool$Picture.write(LStrayWool$Upland;LStrayWool$State;)V -/
noncomputable def S_X5_write_109 (c54 : sw_St → Nat → Nat → Int32 → Option (Unit × sw_St)) (c109 : sw_St → Nat → Nat → Int32 → Int32 → Option (Unit × sw_St)) (σ : sw_St) (o1 : Nat) (o2 : Nat) (x3 : Int32) (x4 : Int32) : Option (Unit × sw_St) :=
  if sw_isO sw_gX o1 9 = true then (if (σ.1 o1 1) ≤ x4 then (c54 σ o1 o2 (x3 + 1)) else (if sw_isO sw_gX o2 8 = true then (if sw_isA sw_gX (o2 + 6) 0 = true then (if sw_inb ((x3 * 8) + x4) (sw_ln sw_gX (o2 + 6)) = true then ((F_X5_put σ (σ.1 (o2 + 6) (((x3 * 8) + x4).toNatClampNeg)) 1).bind fun q5 => c109 q5.2 o1 o2 x3 (x4 + 1)) else none) else none) else none)) else none
theorem SC_X5_write_109 {E : sw_E} {d : Nat} (hd : 1 ≤ d) {p : Unit × sw_St} {c54 : sw_St → Nat → Nat → Int32 → Option (Unit × sw_St)} {c109 : sw_St → Nat → Nat → Int32 → Int32 → Option (Unit × sw_St)} (h54 : ∀ (σ : sw_St) (o1 : Nat) (o2 : Nat) (x3 : Int32), c54 σ o1 o2 x3 = some p → sw_W E sw_gX m_X5_write d 54 [(0, .ref 224), (1, .ref o1), (2, .ref o2), (3, .int x3)] [] σ (sw_pV p)) (h109 : ∀ (σ : sw_St) (o1 : Nat) (o2 : Nat) (x3 : Int32) (x4 : Int32), c109 σ o1 o2 x3 x4 = some p → sw_W E sw_gX m_X5_write d 109 [(0, .ref 224), (1, .ref o1), (2, .ref o2), (3, .int x3), (4, .int x4)] [] σ (sw_pV p)) {σ : sw_St} {o1 : Nat} {o2 : Nat} {x3 : Int32} {x4 : Int32} (h : S_X5_write_109 c54 c109 σ o1 o2 x3 x4 = some p) : sw_W E sw_gX m_X5_write d 109 [(0, .ref 224), (1, .ref o1), (2, .ref o2), (3, .int x3), (4, .int x4)] [] σ (sw_pV p) := by
  unfold S_X5_write_109 at h
  obtain ⟨o1, h⟩ := sw_ifs h
  refine B_X5_write_109 o1 (fun hc => ?_) (fun hc => ?_)
  · rw [if_pos hc] at h
    refine B_X5_write_141  ?_
    exact h54 _ _ _ _ h
  · rw [if_neg hc] at h
    obtain ⟨o2, h⟩ := sw_ifs h
    obtain ⟨o3, h⟩ := sw_ifs h
    obtain ⟨o4, h⟩ := sw_ifs h
    obtain ⟨q5, hq, h⟩ := sw_bnd h
    refine B_X5_write_118 o2 o3 (sw_inb_sp o4) (FC_X5_put (Nat.le_refl _) hq) (Nat.lt_of_lt_of_le (by decide) hd) (fun s hvs => ?_)
    subst hvs
    refine B_X5_write_135  ?_
    exact h109 _ _ _ _ _ h
noncomputable def L_X5_write_109 (c54 : sw_St → Nat → Nat → Int32 → Option (Unit × sw_St)) : Nat → sw_St → Nat → Nat → Int32 → Int32 → Option (Unit × sw_St)
  | 0, _, _, _, _, _ => none
  | k + 1, σ, o1, o2, x3, x4 => S_X5_write_109 c54 (fun σ o1 o2 x3 x4 => L_X5_write_109 c54 k σ o1 o2 x3 x4) σ o1 o2 x3 x4
theorem LC_X5_write_109 {E : sw_E} {d : Nat} (hd : 1 ≤ d) {p : Unit × sw_St} {c54 : sw_St → Nat → Nat → Int32 → Option (Unit × sw_St)} (h54 : ∀ (σ : sw_St) (o1 : Nat) (o2 : Nat) (x3 : Int32), c54 σ o1 o2 x3 = some p → sw_W E sw_gX m_X5_write d 54 [(0, .ref 224), (1, .ref o1), (2, .ref o2), (3, .int x3)] [] σ (sw_pV p)) : ∀ (k : Nat) (σ : sw_St) (o1 : Nat) (o2 : Nat) (x3 : Int32) (x4 : Int32), L_X5_write_109 c54 k σ o1 o2 x3 x4 = some p → sw_W E sw_gX m_X5_write d 109 [(0, .ref 224), (1, .ref o1), (2, .ref o2), (3, .int x3), (4, .int x4)] [] σ (sw_pV p) := by
  intro k
  induction k with
  | zero => intro σ o1 o2 x3 x4 h; cases h
  | succ k ih => intro σ o1 o2 x3 x4 h; exact SC_X5_write_109 hd h54 ih h
noncomputable def S_X5_write_54 (c54 : sw_St → Nat → Nat → Int32 → Option (Unit × sw_St)) (σ : sw_St) (o1 : Nat) (o2 : Nat) (x3 : Int32) : Option (Unit × sw_St) :=
  if sw_isO sw_gX o1 9 = true then (if (σ.1 o1 3) ≤ x3 then ((F_X5_checkOf σ 225 (σ.1 224 1)).bind fun q2 => (F_X5_put q2.2 q2.1 1).bind fun q3 => some ((), q3.2)) else (if sw_isO sw_gX o2 8 = true then (if sw_isA sw_gX (o2 + 1) 0 = true then (if sw_inb x3 (sw_ln sw_gX (o2 + 1)) = true then ((F_X5_put σ (σ.1 (o2 + 1) x3.toNatClampNeg) 1).bind fun q7 => if sw_isO sw_gX o2 8 = true then (if sw_isA sw_gX (o2 + 2) 0 = true then (if sw_inb x3 (sw_ln sw_gX (o2 + 2)) = true then ((F_X5_put q7.2 (q7.2.1 (o2 + 2) x3.toNatClampNeg) 2).bind fun q11 => if sw_isO sw_gX o2 8 = true then (if sw_isA sw_gX (o2 + 3) 0 = true then (if sw_inb x3 (sw_ln sw_gX (o2 + 3)) = true then ((F_X5_put q11.2 (q11.2.1 (o2 + 3) x3.toNatClampNeg) 1).bind fun q15 => if sw_isO sw_gX o2 8 = true then (if sw_isA sw_gX (o2 + 4) 0 = true then (if sw_inb x3 (sw_ln sw_gX (o2 + 4)) = true then ((F_X5_put q15.2 (q15.2.1 (o2 + 4) x3.toNatClampNeg) 1).bind fun q19 => L_X5_write_109 c54 sw_fuel q19.2 o1 o2 x3 0) else none) else none) else none) else none) else none) else none) else none) else none) else none) else none) else none) else none)) else none
theorem SC_X5_write_54 {E : sw_E} {d : Nat} (hd : 1 ≤ d) {p : Unit × sw_St} {c54 : sw_St → Nat → Nat → Int32 → Option (Unit × sw_St)} (h54 : ∀ (σ : sw_St) (o1 : Nat) (o2 : Nat) (x3 : Int32), c54 σ o1 o2 x3 = some p → sw_W E sw_gX m_X5_write d 54 [(0, .ref 224), (1, .ref o1), (2, .ref o2), (3, .int x3)] [] σ (sw_pV p)) {σ : sw_St} {o1 : Nat} {o2 : Nat} {x3 : Int32} (h : S_X5_write_54 c54 σ o1 o2 x3 = some p) : sw_W E sw_gX m_X5_write d 54 [(0, .ref 224), (1, .ref o1), (2, .ref o2), (3, .int x3)] [] σ (sw_pV p) := by
  unfold S_X5_write_54 at h
  obtain ⟨o1, h⟩ := sw_ifs h
  refine B_X5_write_54 o1 (fun hc => ?_) (fun hc => ?_)
  · rw [if_pos hc] at h
    obtain ⟨q2, hq, h⟩ := sw_bnd h
    refine B_X5_write_147  (FC_X5_checkOf (Nat.le_refl _) hq) (Nat.lt_of_lt_of_le (by decide) hd) (fun v s hvs => ?_)
    obtain ⟨hv1, hv2⟩ := hvs; subst hv1; subst hv2
    obtain ⟨q3, hq, h⟩ := sw_bnd h
    refine B_X5_write_159  (FC_X5_put (Nat.le_refl _) hq) (Nat.lt_of_lt_of_le (by decide) hd) (fun s hvs => ?_)
    subst hvs
    cases h
    exact B_X5_write_163  ⟨rfl, rfl⟩
  · rw [if_neg hc] at h
    obtain ⟨o4, h⟩ := sw_ifs h
    obtain ⟨o5, h⟩ := sw_ifs h
    obtain ⟨o6, h⟩ := sw_ifs h
    obtain ⟨q7, hq, h⟩ := sw_bnd h
    refine B_X5_write_62 o4 o5 (sw_inb_sp o6) (FC_X5_put (Nat.le_refl _) hq) (Nat.lt_of_lt_of_le (by decide) hd) (fun s hvs => ?_)
    subst hvs
    obtain ⟨o8, h⟩ := sw_ifs h
    obtain ⟨o9, h⟩ := sw_ifs h
    obtain ⟨o10, h⟩ := sw_ifs h
    obtain ⟨q11, hq, h⟩ := sw_bnd h
    refine B_X5_write_73 o8 o9 (sw_inb_sp o10) (FC_X5_put (Nat.le_refl _) hq) (Nat.lt_of_lt_of_le (by decide) hd) (fun s hvs => ?_)
    subst hvs
    obtain ⟨o12, h⟩ := sw_ifs h
    obtain ⟨o13, h⟩ := sw_ifs h
    obtain ⟨o14, h⟩ := sw_ifs h
    obtain ⟨q15, hq, h⟩ := sw_bnd h
    refine B_X5_write_84 o12 o13 (sw_inb_sp o14) (FC_X5_put (Nat.le_refl _) hq) (Nat.lt_of_lt_of_le (by decide) hd) (fun s hvs => ?_)
    subst hvs
    obtain ⟨o16, h⟩ := sw_ifs h
    obtain ⟨o17, h⟩ := sw_ifs h
    obtain ⟨o18, h⟩ := sw_ifs h
    obtain ⟨q19, hq, h⟩ := sw_bnd h
    refine B_X5_write_95 o16 o17 (sw_inb_sp o18) (FC_X5_put (Nat.le_refl _) hq) (Nat.lt_of_lt_of_le (by decide) hd) (fun s hvs => ?_)
    subst hvs
    refine B_X5_write_106  ?_
    exact LC_X5_write_109 hd h54 _ _ _ _ _ _ h
noncomputable def L_X5_write_54 : Nat → sw_St → Nat → Nat → Int32 → Option (Unit × sw_St)
  | 0, _, _, _, _ => none
  | k + 1, σ, o1, o2, x3 => S_X5_write_54 (fun σ o1 o2 x3 => L_X5_write_54 k σ o1 o2 x3) σ o1 o2 x3
theorem LC_X5_write_54 {E : sw_E} {d : Nat} (hd : 1 ≤ d) {p : Unit × sw_St} : ∀ (k : Nat) (σ : sw_St) (o1 : Nat) (o2 : Nat) (x3 : Int32), L_X5_write_54 k σ o1 o2 x3 = some p → sw_W E sw_gX m_X5_write d 54 [(0, .ref 224), (1, .ref o1), (2, .ref o2), (3, .int x3)] [] σ (sw_pV p) := by
  intro k
  induction k with
  | zero => intro σ o1 o2 x3 h; cases h
  | succ k ih => intro σ o1 o2 x3 h; exact SC_X5_write_54 hd ih h
noncomputable def S_X5_write_25 (c25 : sw_St → Nat → Nat → Int32 → Option (Unit × sw_St)) (σ : sw_St) (o1 : Nat) (o2 : Nat) (x3 : Int32) : Option (Unit × sw_St) :=
  if sw_isO sw_gX o1 9 = true then (if (σ.1 o1 2) ≤ x3 then (L_X5_write_54 sw_fuel σ o1 o2 0) else (if sw_isO sw_gX o2 8 = true then ((F_X5_put σ (((σ.1 o2 2) >>> (x3 &&& 31)) &&& 1) 1).bind fun q3 => c25 q3.2 o1 o2 (x3 + 1)) else none)) else none
theorem SC_X5_write_25 {E : sw_E} {d : Nat} (hd : 1 ≤ d) {p : Unit × sw_St} {c25 : sw_St → Nat → Nat → Int32 → Option (Unit × sw_St)} (h25 : ∀ (σ : sw_St) (o1 : Nat) (o2 : Nat) (x3 : Int32), c25 σ o1 o2 x3 = some p → sw_W E sw_gX m_X5_write d 25 [(0, .ref 224), (1, .ref o1), (2, .ref o2), (3, .int x3)] [] σ (sw_pV p)) {σ : sw_St} {o1 : Nat} {o2 : Nat} {x3 : Int32} (h : S_X5_write_25 c25 σ o1 o2 x3 = some p) : sw_W E sw_gX m_X5_write d 25 [(0, .ref 224), (1, .ref o1), (2, .ref o2), (3, .int x3)] [] σ (sw_pV p) := by
  unfold S_X5_write_25 at h
  obtain ⟨o1, h⟩ := sw_ifs h
  refine B_X5_write_25 o1 (fun hc => ?_) (fun hc => ?_)
  · rw [if_pos hc] at h
    refine B_X5_write_52  ?_
    exact LC_X5_write_54 hd _ _ _ _ _ h
  · rw [if_neg hc] at h
    obtain ⟨o2, h⟩ := sw_ifs h
    obtain ⟨q3, hq, h⟩ := sw_bnd h
    refine B_X5_write_33 o2 (FC_X5_put (Nat.le_refl _) hq) (Nat.lt_of_lt_of_le (by decide) hd) (fun s hvs => ?_)
    subst hvs
    refine B_X5_write_46  ?_
    exact h25 _ _ _ _ h
noncomputable def L_X5_write_25 : Nat → sw_St → Nat → Nat → Int32 → Option (Unit × sw_St)
  | 0, _, _, _, _ => none
  | k + 1, σ, o1, o2, x3 => S_X5_write_25 (fun σ o1 o2 x3 => L_X5_write_25 k σ o1 o2 x3) σ o1 o2 x3
theorem LC_X5_write_25 {E : sw_E} {d : Nat} (hd : 1 ≤ d) {p : Unit × sw_St} : ∀ (k : Nat) (σ : sw_St) (o1 : Nat) (o2 : Nat) (x3 : Int32), L_X5_write_25 k σ o1 o2 x3 = some p → sw_W E sw_gX m_X5_write d 25 [(0, .ref 224), (1, .ref o1), (2, .ref o2), (3, .int x3)] [] σ (sw_pV p) := by
  intro k
  induction k with
  | zero => intro σ o1 o2 x3 h; cases h
  | succ k ih => intro σ o1 o2 x3 h; exact SC_X5_write_25 hd ih h
noncomputable def F_X5_write (σ : sw_St) (o1 : Nat) (o2 : Nat) : Option (Unit × sw_St) :=
  if sw_isO sw_gX o2 8 = true then ((F_X5_put (sw_uI σ 224 1 0) ((sw_uI σ 224 1 0).1 o2 0) 2).bind fun q2 => if sw_isO sw_gX o2 8 = true then ((F_X5_put q2.2 (q2.2.1 o2 1) 3).bind fun q4 => L_X5_write_25 sw_fuel q4.2 o1 o2 0) else none) else none
theorem FC_X5_write {E : sw_E} {d : Nat} (hd : 1 ≤ d) {p : Unit × sw_St} {σ : sw_St} {o1 : Nat} {o2 : Nat} (h : F_X5_write σ o1 o2 = some p) : sw_KV E sw_gX m_X5_write d [.ref 224, .ref o1, .ref o2] σ (fun s => s = p.2) := by
  unfold F_X5_write at h
  refine sw_K.of (by decide +kernel) rfl (Nat.le_of_ble_eq_true rfl) ?_
  show sw_W E sw_gX m_X5_write d 0 [(0, .ref 224), (1, .ref o1), (2, .ref o2)] [] σ (sw_pV p)
  obtain ⟨o1, h⟩ := sw_ifs h
  obtain ⟨q2, hq, h⟩ := sw_bnd h
  refine B_X5_write_0 o1 (FC_X5_put (Nat.le_refl _) hq) (Nat.lt_of_lt_of_le (by decide) hd) (fun s hvs => ?_)
  subst hvs
  obtain ⟨o3, h⟩ := sw_ifs h
  obtain ⟨q4, hq, h⟩ := sw_bnd h
  refine B_X5_write_14 o3 (FC_X5_put (Nat.le_refl _) hq) (Nat.lt_of_lt_of_le (by decide) hd) (fun s hvs => ?_)
  subst hvs
  refine B_X5_write_23  ?_
  exact LC_X5_write_25 hd _ _ _ _ _ h
/-! StrayWool$Picture.read([BILStrayWool$Upland;LStrayWool$State;)Z -/
noncomputable def S_X5_read_46 (σ : sw_St) : Option (Int32 × sw_St) :=
  some (0, σ)
theorem SC_X5_read_46 {E : sw_E} {d : Nat} (hd : 1 ≤ d) {p : Int32 × sw_St} {σ : sw_St} (h : S_X5_read_46 σ  = some p) : sw_W E sw_gX m_X5_read d 46 [] [] σ (sw_pI p) := by
  unfold S_X5_read_46 at h
  cases h
  exact B_X5_read_46  ⟨_, rfl, rfl, rfl⟩
noncomputable def S_X5_read_212 (c132 : sw_St → Nat → Nat → Nat → Int32 → Option (Int32 × sw_St)) (c212 : sw_St → Nat → Nat → Nat → Int32 → Int32 → Option (Int32 × sw_St)) (σ : sw_St) (o1 : Nat) (o3 : Nat) (o4 : Nat) (x6 : Int32) (x7 : Int32) : Option (Int32 × sw_St) :=
  if sw_isO sw_gX o3 9 = true then (if (σ.1 o3 1) ≤ x7 then (c132 σ o1 o3 o4 (x6 + 1)) else (if sw_isO sw_gX o4 8 = true then ((F_X5_take σ o1 1 99).bind fun q3 => if sw_isA sw_gX (o4 + 6) 0 = true then (if sw_inb ((x6 * 8) + x7) (sw_ln sw_gX (o4 + 6)) = true then (c212 (sw_uI q3.2 (o4 + 6) ((x6 * 8) + x7).toNatClampNeg q3.1) o1 o3 o4 x6 (x7 + 1)) else none) else none) else none)) else none
theorem SC_X5_read_212 {E : sw_E} {d : Nat} (hd : 1 ≤ d) {p : Int32 × sw_St} {c132 : sw_St → Nat → Nat → Nat → Int32 → Option (Int32 × sw_St)} {c212 : sw_St → Nat → Nat → Nat → Int32 → Int32 → Option (Int32 × sw_St)} (h132 : ∀ (σ : sw_St) (o1 : Nat) (o3 : Nat) (o4 : Nat) (x6 : Int32), c132 σ o1 o3 o4 x6 = some p → sw_W E sw_gX m_X5_read d 132 [(0, .ref 224), (1, .ref o1), (3, .ref o3), (4, .ref o4), (6, .int x6)] [] σ (sw_pI p)) (h212 : ∀ (σ : sw_St) (o1 : Nat) (o3 : Nat) (o4 : Nat) (x6 : Int32) (x7 : Int32), c212 σ o1 o3 o4 x6 x7 = some p → sw_W E sw_gX m_X5_read d 212 [(0, .ref 224), (1, .ref o1), (3, .ref o3), (4, .ref o4), (6, .int x6), (7, .int x7)] [] σ (sw_pI p)) {σ : sw_St} {o1 : Nat} {o3 : Nat} {o4 : Nat} {x6 : Int32} {x7 : Int32} (h : S_X5_read_212 c132 c212 σ o1 o3 o4 x6 x7 = some p) : sw_W E sw_gX m_X5_read d 212 [(0, .ref 224), (1, .ref o1), (3, .ref o3), (4, .ref o4), (6, .int x6), (7, .int x7)] [] σ (sw_pI p) := by
  unfold S_X5_read_212 at h
  obtain ⟨o1, h⟩ := sw_ifs h
  refine B_X5_read_212 o1 (fun hc => ?_) (fun hc => ?_)
  · rw [if_pos hc] at h
    refine B_X5_read_249  ?_
    exact h132 _ _ _ _ _ h
  · rw [if_neg hc] at h
    obtain ⟨o2, h⟩ := sw_ifs h
    obtain ⟨q3, hq, h⟩ := sw_bnd h
    refine B_X5_read_221 o2 (FC_X5_take (Nat.le_refl _) hq) (Nat.lt_of_lt_of_le (by decide) hd) (fun v s hvs => ?_)
    obtain ⟨hv1, hv2⟩ := hvs; subst hv1; subst hv2
    obtain ⟨o4, h⟩ := sw_ifs h
    obtain ⟨o5, h⟩ := sw_ifs h
    refine B_X5_read_242 o4 (sw_inb_sp o5) ?_
    exact h212 _ _ _ _ _ _ h
noncomputable def L_X5_read_212 (c132 : sw_St → Nat → Nat → Nat → Int32 → Option (Int32 × sw_St)) : Nat → sw_St → Nat → Nat → Nat → Int32 → Int32 → Option (Int32 × sw_St)
  | 0, _, _, _, _, _, _ => none
  | k + 1, σ, o1, o3, o4, x6, x7 => S_X5_read_212 c132 (fun σ o1 o3 o4 x6 x7 => L_X5_read_212 c132 k σ o1 o3 o4 x6 x7) σ o1 o3 o4 x6 x7
theorem LC_X5_read_212 {E : sw_E} {d : Nat} (hd : 1 ≤ d) {p : Int32 × sw_St} {c132 : sw_St → Nat → Nat → Nat → Int32 → Option (Int32 × sw_St)} (h132 : ∀ (σ : sw_St) (o1 : Nat) (o3 : Nat) (o4 : Nat) (x6 : Int32), c132 σ o1 o3 o4 x6 = some p → sw_W E sw_gX m_X5_read d 132 [(0, .ref 224), (1, .ref o1), (3, .ref o3), (4, .ref o4), (6, .int x6)] [] σ (sw_pI p)) : ∀ (k : Nat) (σ : sw_St) (o1 : Nat) (o3 : Nat) (o4 : Nat) (x6 : Int32) (x7 : Int32), L_X5_read_212 c132 k σ o1 o3 o4 x6 x7 = some p → sw_W E sw_gX m_X5_read d 212 [(0, .ref 224), (1, .ref o1), (3, .ref o3), (4, .ref o4), (6, .int x6), (7, .int x7)] [] σ (sw_pI p) := by
  intro k
  induction k with
  | zero => intro σ o1 o3 o4 x6 x7 h; cases h
  | succ k ih => intro σ o1 o3 o4 x6 x7 h; exact SC_X5_read_212 hd h132 ih h
noncomputable def S_X5_read_132 (c132 : sw_St → Nat → Nat → Nat → Int32 → Option (Int32 × sw_St)) (σ : sw_St) (o1 : Nat) (o3 : Nat) (o4 : Nat) (x6 : Int32) : Option (Int32 × sw_St) :=
  if sw_isO sw_gX o3 9 = true then (if (σ.1 o3 3) ≤ x6 then (if (σ.1 224 3) = 0 ∨ (σ.1 224 3) = 1 then some (σ.1 224 3, σ) else none) else (if sw_isO sw_gX o4 8 = true then (if sw_isO sw_gX o3 9 = true then ((F_X5_take σ o1 1 ((σ.1 o3 1) - 1)).bind fun q4 => if sw_isA sw_gX (o4 + 1) 0 = true then (if sw_inb x6 (sw_ln sw_gX (o4 + 1)) = true then (if sw_isO sw_gX o4 8 = true then ((F_X5_take (sw_uI q4.2 (o4 + 1) x6.toNatClampNeg q4.1) o1 2 999).bind fun q8 => if sw_isA sw_gX (o4 + 2) 0 = true then (if sw_inb x6 (sw_ln sw_gX (o4 + 2)) = true then (if sw_isO sw_gX o4 8 = true then ((F_X5_take (sw_uI q8.2 (o4 + 2) x6.toNatClampNeg q8.1) o1 1 63).bind fun q12 => if sw_isA sw_gX (o4 + 3) 0 = true then (if sw_inb x6 (sw_ln sw_gX (o4 + 3)) = true then (if sw_isO sw_gX o4 8 = true then ((F_X5_take (sw_uI q12.2 (o4 + 3) x6.toNatClampNeg q12.1) o1 1 1).bind fun q16 => if sw_isA sw_gX (o4 + 4) 0 = true then (if sw_inb x6 (sw_ln sw_gX (o4 + 4)) = true then (L_X5_read_212 c132 sw_fuel (sw_uI q16.2 (o4 + 4) x6.toNatClampNeg q16.1) o1 o3 o4 x6 0) else none) else none) else none) else none) else none) else none) else none) else none) else none) else none) else none) else none) else none)) else none
theorem SC_X5_read_132 {E : sw_E} {d : Nat} (hd : 1 ≤ d) {p : Int32 × sw_St} {c132 : sw_St → Nat → Nat → Nat → Int32 → Option (Int32 × sw_St)} (h132 : ∀ (σ : sw_St) (o1 : Nat) (o3 : Nat) (o4 : Nat) (x6 : Int32), c132 σ o1 o3 o4 x6 = some p → sw_W E sw_gX m_X5_read d 132 [(0, .ref 224), (1, .ref o1), (3, .ref o3), (4, .ref o4), (6, .int x6)] [] σ (sw_pI p)) {σ : sw_St} {o1 : Nat} {o3 : Nat} {o4 : Nat} {x6 : Int32} (h : S_X5_read_132 c132 σ o1 o3 o4 x6 = some p) : sw_W E sw_gX m_X5_read d 132 [(0, .ref 224), (1, .ref o1), (3, .ref o3), (4, .ref o4), (6, .int x6)] [] σ (sw_pI p) := by
  unfold S_X5_read_132 at h
  obtain ⟨o1, h⟩ := sw_ifs h
  refine B_X5_read_132 o1 (fun hc => ?_) (fun hc => ?_)
  · rw [if_pos hc] at h
    obtain ⟨hz, h⟩ := sw_ifs h
    cases h
    exact B_X5_read_255  hz ⟨_, rfl, rfl, rfl⟩
  · rw [if_neg hc] at h
    obtain ⟨o2, h⟩ := sw_ifs h
    obtain ⟨o3, h⟩ := sw_ifs h
    obtain ⟨q4, hq, h⟩ := sw_bnd h
    refine B_X5_read_141 o2 o3 (FC_X5_take (Nat.le_refl _) hq) (Nat.lt_of_lt_of_le (by decide) hd) (fun v s hvs => ?_)
    obtain ⟨hv1, hv2⟩ := hvs; subst hv1; subst hv2
    obtain ⟨o5, h⟩ := sw_ifs h
    obtain ⟨o6, h⟩ := sw_ifs h
    obtain ⟨o7, h⟩ := sw_ifs h
    obtain ⟨q8, hq, h⟩ := sw_bnd h
    refine B_X5_read_160 o5 (sw_inb_sp o6) o7 (FC_X5_take (Nat.le_refl _) hq) (Nat.lt_of_lt_of_le (by decide) hd) (fun v s hvs => ?_)
    obtain ⟨hv1, hv2⟩ := hvs; subst hv1; subst hv2
    obtain ⟨o9, h⟩ := sw_ifs h
    obtain ⟨o10, h⟩ := sw_ifs h
    obtain ⟨o11, h⟩ := sw_ifs h
    obtain ⟨q12, hq, h⟩ := sw_bnd h
    refine B_X5_read_177 o9 (sw_inb_sp o10) o11 (FC_X5_take (Nat.le_refl _) hq) (Nat.lt_of_lt_of_le (by decide) hd) (fun v s hvs => ?_)
    obtain ⟨hv1, hv2⟩ := hvs; subst hv1; subst hv2
    obtain ⟨o13, h⟩ := sw_ifs h
    obtain ⟨o14, h⟩ := sw_ifs h
    obtain ⟨o15, h⟩ := sw_ifs h
    obtain ⟨q16, hq, h⟩ := sw_bnd h
    refine B_X5_read_193 o13 (sw_inb_sp o14) o15 (FC_X5_take (Nat.le_refl _) hq) (Nat.lt_of_lt_of_le (by decide) hd) (fun v s hvs => ?_)
    obtain ⟨hv1, hv2⟩ := hvs; subst hv1; subst hv2
    obtain ⟨o17, h⟩ := sw_ifs h
    obtain ⟨o18, h⟩ := sw_ifs h
    refine B_X5_read_208 o17 (sw_inb_sp o18) ?_
    exact LC_X5_read_212 hd h132 _ _ _ _ _ _ _ h
noncomputable def L_X5_read_132 : Nat → sw_St → Nat → Nat → Nat → Int32 → Option (Int32 × sw_St)
  | 0, _, _, _, _, _ => none
  | k + 1, σ, o1, o3, o4, x6 => S_X5_read_132 (fun σ o1 o3 o4 x6 => L_X5_read_132 k σ o1 o3 o4 x6) σ o1 o3 o4 x6
theorem LC_X5_read_132 {E : sw_E} {d : Nat} (hd : 1 ≤ d) {p : Int32 × sw_St} : ∀ (k : Nat) (σ : sw_St) (o1 : Nat) (o3 : Nat) (o4 : Nat) (x6 : Int32), L_X5_read_132 k σ o1 o3 o4 x6 = some p → sw_W E sw_gX m_X5_read d 132 [(0, .ref 224), (1, .ref o1), (3, .ref o3), (4, .ref o4), (6, .int x6)] [] σ (sw_pI p) := by
  intro k
  induction k with
  | zero => intro σ o1 o3 o4 x6 h; cases h
  | succ k ih => intro σ o1 o3 o4 x6 h; exact SC_X5_read_132 hd ih h
noncomputable def S_X5_read_94 (c94 : sw_St → Nat → Nat → Nat → Int32 → Option (Int32 × sw_St)) (σ : sw_St) (o1 : Nat) (o3 : Nat) (o4 : Nat) (x6 : Int32) : Option (Int32 × sw_St) :=
  if sw_isO sw_gX o3 9 = true then (if (σ.1 o3 2) ≤ x6 then (L_X5_read_132 sw_fuel σ o1 o3 o4 0) else (if sw_isO sw_gX o4 8 = true then ((F_X5_take σ o1 1 1).bind fun q3 => if sw_isO sw_gX o4 8 = true then (c94 (sw_uI q3.2 o4 2 ((σ.1 o4 2) ||| (q3.1 <<< (x6 &&& 31)))) o1 o3 o4 (x6 + 1)) else none) else none)) else none
theorem SC_X5_read_94 {E : sw_E} {d : Nat} (hd : 1 ≤ d) {p : Int32 × sw_St} {c94 : sw_St → Nat → Nat → Nat → Int32 → Option (Int32 × sw_St)} (h94 : ∀ (σ : sw_St) (o1 : Nat) (o3 : Nat) (o4 : Nat) (x6 : Int32), c94 σ o1 o3 o4 x6 = some p → sw_W E sw_gX m_X5_read d 94 [(0, .ref 224), (1, .ref o1), (3, .ref o3), (4, .ref o4), (6, .int x6)] [] σ (sw_pI p)) {σ : sw_St} {o1 : Nat} {o3 : Nat} {o4 : Nat} {x6 : Int32} (h : S_X5_read_94 c94 σ o1 o3 o4 x6 = some p) : sw_W E sw_gX m_X5_read d 94 [(0, .ref 224), (1, .ref o1), (3, .ref o3), (4, .ref o4), (6, .int x6)] [] σ (sw_pI p) := by
  unfold S_X5_read_94 at h
  obtain ⟨o1, h⟩ := sw_ifs h
  refine B_X5_read_94 o1 (fun hc => ?_) (fun hc => ?_)
  · rw [if_pos hc] at h
    refine B_X5_read_129  ?_
    exact LC_X5_read_132 hd _ _ _ _ _ _ h
  · rw [if_neg hc] at h
    obtain ⟨o2, h⟩ := sw_ifs h
    obtain ⟨q3, hq, h⟩ := sw_bnd h
    refine B_X5_read_103 o2 (FC_X5_take (Nat.le_refl _) hq) (Nat.lt_of_lt_of_le (by decide) hd) (fun v s hvs => ?_)
    obtain ⟨hv1, hv2⟩ := hvs; subst hv1; subst hv2
    obtain ⟨o4, h⟩ := sw_ifs h
    refine B_X5_read_116 o4 ?_
    exact h94 _ _ _ _ _ h
noncomputable def L_X5_read_94 : Nat → sw_St → Nat → Nat → Nat → Int32 → Option (Int32 × sw_St)
  | 0, _, _, _, _, _ => none
  | k + 1, σ, o1, o3, o4, x6 => S_X5_read_94 (fun σ o1 o3 o4 x6 => L_X5_read_94 k σ o1 o3 o4 x6) σ o1 o3 o4 x6
theorem LC_X5_read_94 {E : sw_E} {d : Nat} (hd : 1 ≤ d) {p : Int32 × sw_St} : ∀ (k : Nat) (σ : sw_St) (o1 : Nat) (o3 : Nat) (o4 : Nat) (x6 : Int32), L_X5_read_94 k σ o1 o3 o4 x6 = some p → sw_W E sw_gX m_X5_read d 94 [(0, .ref 224), (1, .ref o1), (3, .ref o3), (4, .ref o4), (6, .int x6)] [] σ (sw_pI p) := by
  intro k
  induction k with
  | zero => intro σ o1 o3 o4 x6 h; cases h
  | succ k ih => intro σ o1 o3 o4 x6 h; exact SC_X5_read_94 hd ih h
noncomputable def F_X5_read (σ : sw_St) (o1 : Nat) (x2 : Int32) (o3 : Nat) (o4 : Nat) : Option (Int32 × sw_St) :=
  if sw_isO sw_gX o3 9 = true then (if sw_isO sw_gX o3 9 = true then (if sw_isO sw_gX o3 9 = true then (if x2 = ((6 + (σ.1 o3 2)) + ((σ.1 o3 3) * (5 + (σ.1 o3 1)))) then ((F_X5_checkOf σ o1 (x2 - 1)).bind fun q4 => if sw_isA sw_gX o1 1 = true then (if sw_inb (x2 - 1) (sw_ln sw_gX o1) = true then (if q4.1 = ((q4.2.1 o1 ((x2 - 1).toNatClampNeg)) &&& 255) then ((F_X5_take (sw_uI (sw_uI q4.2 224 2 0) 224 3 1) o1 2 999).bind fun q7 => if sw_isO sw_gX o4 8 = true then ((F_X5_take (sw_uI q7.2 o4 0 q7.1) o1 3 99999).bind fun q9 => if sw_isO sw_gX o4 8 = true then (if sw_isO sw_gX o4 8 = true then (L_X5_read_94 sw_fuel (sw_uI (sw_uI q9.2 o4 1 q9.1) o4 2 0) o1 o3 o4 0) else none) else none) else none) else (S_X5_read_46 q4.2 )) else none) else none) else (S_X5_read_46 σ )) else none) else none) else none
theorem FC_X5_read {E : sw_E} {d : Nat} (hd : 1 ≤ d) {p : Int32 × sw_St} {σ : sw_St} {o1 : Nat} {x2 : Int32} {o3 : Nat} {o4 : Nat} (h : F_X5_read σ o1 x2 o3 o4 = some p) : sw_KI E sw_gX m_X5_read d [.ref 224, .ref o1, .int x2, .ref o3, .ref o4] σ (fun v s => v = p.1 ∧ s = p.2) := by
  unfold F_X5_read at h
  refine sw_K.of (by decide +kernel) rfl (Nat.le_of_ble_eq_true rfl) ?_
  show sw_W E sw_gX m_X5_read d 0 [(0, .ref 224), (1, .ref o1), (2, .int x2), (3, .ref o3), (4, .ref o4)] [] σ (sw_pI p)
  obtain ⟨o1, h⟩ := sw_ifs h
  obtain ⟨o2, h⟩ := sw_ifs h
  obtain ⟨o3, h⟩ := sw_ifs h
  refine B_X5_read_0 o1 o2 o3 (fun hc => ?_) (fun hc => ?_)
  · rw [if_neg hc] at h
    exact SC_X5_read_46 hd h
  · rw [if_pos hc] at h
    obtain ⟨q4, hq, h⟩ := sw_bnd h
    refine B_X5_read_27  (FC_X5_checkOf (Nat.le_refl _) hq) (Nat.lt_of_lt_of_le (by decide) hd) (fun v s hvs => ?_)
    obtain ⟨hv1, hv2⟩ := hvs; subst hv1; subst hv2
    obtain ⟨o5, h⟩ := sw_ifs h
    obtain ⟨o6, h⟩ := sw_ifs h
    refine B_X5_read_34 o5 (sw_inb_sp o6) (fun hc => ?_) (fun hc => ?_)
    · rw [if_pos hc] at h
      obtain ⟨q7, hq, h⟩ := sw_bnd h
      refine B_X5_read_48  (FC_X5_take (Nat.le_refl _) hq) (Nat.lt_of_lt_of_le (by decide) hd) (fun v s hvs => ?_)
      obtain ⟨hv1, hv2⟩ := hvs; subst hv1; subst hv2
      obtain ⟨o8, h⟩ := sw_ifs h
      obtain ⟨q9, hq, h⟩ := sw_bnd h
      refine B_X5_read_69 o8 (FC_X5_take (Nat.le_refl _) hq) (Nat.lt_of_lt_of_le (by decide) hd) (fun v s hvs => ?_)
      obtain ⟨hv1, hv2⟩ := hvs; subst hv1; subst hv2
      obtain ⟨o10, h⟩ := sw_ifs h
      obtain ⟨o11, h⟩ := sw_ifs h
      refine B_X5_read_82 o10 o11 ?_
      exact LC_X5_read_94 hd _ _ _ _ _ _ h
    · rw [if_neg hc] at h
      exact SC_X5_read_46 hd h
/-! StrayWool$Reader.advance()V -/
noncomputable def S_X6_advance_278 (σ : sw_St) : Option (Unit × sw_St) :=
  some ((), σ)
theorem SC_X6_advance_278 {E : sw_E} {d : Nat} (hd : 5 ≤ d) {p : Unit × sw_St} {σ : sw_St} (h : S_X6_advance_278 σ  = some p) : sw_W E sw_gX m_X6_advance d 278 [] [] σ (sw_pV p) := by
  unfold S_X6_advance_278 at h
  cases h
  exact B_X6_advance_278  ⟨rfl, rfl⟩
noncomputable def S_X6_advance_271 (σ : sw_St) : Option (Unit × sw_St) :=
  S_X6_advance_278 (sw_uI σ 2 2 302) 
theorem SC_X6_advance_271 {E : sw_E} {d : Nat} (hd : 5 ≤ d) {p : Unit × sw_St} {σ : sw_St} (h : S_X6_advance_271 σ  = some p) : sw_W E sw_gX m_X6_advance d 271 [(0, .ref 2)] [] σ (sw_pV p) := by
  unfold S_X6_advance_271 at h
  refine B_X6_advance_271  ?_
  exact SC_X6_advance_278 hd h
noncomputable def S_X6_advance_230 (σ : sw_St) (x1 : Int32) : Option (Unit × sw_St) :=
  if (σ.1 2 3) = x1 then (if (σ.1 2 3) ≤ 0 then (S_X6_advance_278 σ ) else ((F_X6_isLetter σ ((σ.1 2 3) - 1)).bind fun q1 => if q1.1 = 0 then ((F_X6_isDigit q1.2 ((q1.2.1 2 3) - 1)).bind fun q2 => if q2.1 = 0 then (S_X6_advance_278 q2.2 ) else (S_X6_advance_271 q2.2 )) else (S_X6_advance_271 q1.2 ))) else (S_X6_advance_278 σ )
theorem SC_X6_advance_230 {E : sw_E} {d : Nat} (hd : 5 ≤ d) {p : Unit × sw_St} {σ : sw_St} {x1 : Int32} (h : S_X6_advance_230 σ x1 = some p) : sw_W E sw_gX m_X6_advance d 230 [(0, .ref 2), (1, .int x1)] [] σ (sw_pV p) := by
  unfold S_X6_advance_230 at h
  refine B_X6_advance_230  (fun hc => ?_) (fun hc => ?_)
  · rw [if_neg hc] at h
    exact SC_X6_advance_278 hd h
  · rw [if_pos hc] at h
    refine B_X6_advance_238  (fun hc => ?_) (fun hc => ?_)
    · rw [if_pos hc] at h
      exact SC_X6_advance_278 hd h
    · rw [if_neg hc] at h
      obtain ⟨q1, hq, h⟩ := sw_bnd h
      refine B_X6_advance_245  (FC_X6_isLetter (Nat.le_refl _) hq) (Nat.lt_of_lt_of_le (by decide) hd) (fun v s hvs => ?_)
      obtain ⟨hv1, hv2⟩ := hvs; subst hv1; subst hv2
      refine B_X6_advance_255  (fun hc => ?_) (fun hc => ?_)
      · rw [if_neg hc] at h
        exact SC_X6_advance_271 hd h
      · rw [if_pos hc] at h
        obtain ⟨q2, hq, h⟩ := sw_bnd h
        refine B_X6_advance_258  (FC_X6_isDigit (Nat.le_refl _) hq) (Nat.lt_of_lt_of_le (by decide) hd) (fun v s hvs => ?_)
        obtain ⟨hv1, hv2⟩ := hvs; subst hv1; subst hv2
        refine B_X6_advance_268  (fun hc => ?_) (fun hc => ?_)
        · rw [if_pos hc] at h
          exact SC_X6_advance_278 hd h
        · rw [if_neg hc] at h
          exact SC_X6_advance_271 hd h
noncomputable def S_X6_advance_192 (σ : sw_St) (x1 : Int32) : Option (Unit × sw_St) :=
  S_X6_advance_230 (sw_uI σ 2 2 300) x1
theorem SC_X6_advance_192 {E : sw_E} {d : Nat} (hd : 5 ≤ d) {p : Unit × sw_St} {σ : sw_St} {x1 : Int32} (h : S_X6_advance_192 σ x1 = some p) : sw_W E sw_gX m_X6_advance d 192 [(0, .ref 2), (1, .int x1)] [] σ (sw_pV p) := by
  unfold S_X6_advance_192 at h
  refine B_X6_advance_192  ?_
  exact SC_X6_advance_230 hd h
noncomputable def S_X6_advance_157 (c157 : sw_St → Int32 → Option (Unit × sw_St)) (σ : sw_St) (x1 : Int32) : Option (Unit × sw_St) :=
  if (σ.1 2 1) ≤ (σ.1 2 4) then (S_X6_advance_192 σ x1) else ((F_X6_isDigit σ (σ.1 2 4)).bind fun q1 => if q1.1 = 0 then (S_X6_advance_192 q1.2 x1) else (c157 (sw_uI q1.2 2 4 ((q1.2.1 2 4) + 1)) x1))
theorem SC_X6_advance_157 {E : sw_E} {d : Nat} (hd : 5 ≤ d) {p : Unit × sw_St} {c157 : sw_St → Int32 → Option (Unit × sw_St)} (h157 : ∀ (σ : sw_St) (x1 : Int32), c157 σ x1 = some p → sw_W E sw_gX m_X6_advance d 157 [(0, .ref 2), (1, .int x1)] [] σ (sw_pV p)) {σ : sw_St} {x1 : Int32} (h : S_X6_advance_157 c157 σ x1 = some p) : sw_W E sw_gX m_X6_advance d 157 [(0, .ref 2), (1, .int x1)] [] σ (sw_pV p) := by
  unfold S_X6_advance_157 at h
  refine B_X6_advance_157  (fun hc => ?_) (fun hc => ?_)
  · rw [if_pos hc] at h
    exact SC_X6_advance_192 hd h
  · rw [if_neg hc] at h
    obtain ⟨q1, hq, h⟩ := sw_bnd h
    refine B_X6_advance_168  (FC_X6_isDigit (Nat.le_refl _) hq) (Nat.lt_of_lt_of_le (by decide) hd) (fun v s hvs => ?_)
    obtain ⟨hv1, hv2⟩ := hvs; subst hv1; subst hv2
    refine B_X6_advance_176  (fun hc => ?_) (fun hc => ?_)
    · rw [if_pos hc] at h
      exact SC_X6_advance_192 hd h
    · rw [if_neg hc] at h
      refine B_X6_advance_179  ?_
      exact h157 _ _ h
noncomputable def L_X6_advance_157 : Nat → sw_St → Int32 → Option (Unit × sw_St)
  | 0, _, _ => none
  | k + 1, σ, x1 => S_X6_advance_157 (fun σ x1 => L_X6_advance_157 k σ x1) σ x1
theorem LC_X6_advance_157 {E : sw_E} {d : Nat} (hd : 5 ≤ d) {p : Unit × sw_St} : ∀ (k : Nat) (σ : sw_St) (x1 : Int32), L_X6_advance_157 k σ x1 = some p → sw_W E sw_gX m_X6_advance d 157 [(0, .ref 2), (1, .int x1)] [] σ (sw_pV p) := by
  intro k
  induction k with
  | zero => intro σ x1 h; cases h
  | succ k ih => intro σ x1 h; exact SC_X6_advance_157 hd ih h
noncomputable def S_X6_advance_135 (σ : sw_St) (x1 : Int32) : Option (Unit × sw_St) :=
  (F_X6_wordKind σ ).bind fun q1 => S_X6_advance_230 (sw_uI q1.2 2 2 q1.1) x1
theorem SC_X6_advance_135 {E : sw_E} {d : Nat} (hd : 5 ≤ d) {p : Unit × sw_St} {σ : sw_St} {x1 : Int32} (h : S_X6_advance_135 σ x1 = some p) : sw_W E sw_gX m_X6_advance d 135 [(0, .ref 2), (1, .int x1)] [] σ (sw_pV p) := by
  unfold S_X6_advance_135 at h
  obtain ⟨q1, hq, h⟩ := sw_bnd h
  refine B_X6_advance_135  (FC_X6_wordKind (Nat.le_refl _) hq) (Nat.lt_of_lt_of_le (by decide) hd) (fun v s hvs => ?_)
  obtain ⟨hv1, hv2⟩ := hvs; subst hv1; subst hv2
  refine B_X6_advance_140  ?_
  exact SC_X6_advance_230 hd h
noncomputable def S_X6_advance_100 (c100 : sw_St → Int32 → Option (Unit × sw_St)) (σ : sw_St) (x1 : Int32) : Option (Unit × sw_St) :=
  if (σ.1 2 1) ≤ (σ.1 2 4) then (S_X6_advance_135 σ x1) else ((F_X6_isLetter σ (σ.1 2 4)).bind fun q1 => if q1.1 = 0 then (S_X6_advance_135 q1.2 x1) else (c100 (sw_uI q1.2 2 4 ((q1.2.1 2 4) + 1)) x1))
theorem SC_X6_advance_100 {E : sw_E} {d : Nat} (hd : 5 ≤ d) {p : Unit × sw_St} {c100 : sw_St → Int32 → Option (Unit × sw_St)} (h100 : ∀ (σ : sw_St) (x1 : Int32), c100 σ x1 = some p → sw_W E sw_gX m_X6_advance d 100 [(0, .ref 2), (1, .int x1)] [] σ (sw_pV p)) {σ : sw_St} {x1 : Int32} (h : S_X6_advance_100 c100 σ x1 = some p) : sw_W E sw_gX m_X6_advance d 100 [(0, .ref 2), (1, .int x1)] [] σ (sw_pV p) := by
  unfold S_X6_advance_100 at h
  refine B_X6_advance_100  (fun hc => ?_) (fun hc => ?_)
  · rw [if_pos hc] at h
    exact SC_X6_advance_135 hd h
  · rw [if_neg hc] at h
    obtain ⟨q1, hq, h⟩ := sw_bnd h
    refine B_X6_advance_111  (FC_X6_isLetter (Nat.le_refl _) hq) (Nat.lt_of_lt_of_le (by decide) hd) (fun v s hvs => ?_)
    obtain ⟨hv1, hv2⟩ := hvs; subst hv1; subst hv2
    refine B_X6_advance_119  (fun hc => ?_) (fun hc => ?_)
    · rw [if_pos hc] at h
      exact SC_X6_advance_135 hd h
    · rw [if_neg hc] at h
      refine B_X6_advance_122  ?_
      exact h100 _ _ h
noncomputable def L_X6_advance_100 : Nat → sw_St → Int32 → Option (Unit × sw_St)
  | 0, _, _ => none
  | k + 1, σ, x1 => S_X6_advance_100 (fun σ x1 => L_X6_advance_100 k σ x1) σ x1
theorem LC_X6_advance_100 {E : sw_E} {d : Nat} (hd : 5 ≤ d) {p : Unit × sw_St} : ∀ (k : Nat) (σ : sw_St) (x1 : Int32), L_X6_advance_100 k σ x1 = some p → sw_W E sw_gX m_X6_advance d 100 [(0, .ref 2), (1, .int x1)] [] σ (sw_pV p) := by
  intro k
  induction k with
  | zero => intro σ x1 h; cases h
  | succ k ih => intro σ x1 h; exact SC_X6_advance_100 hd ih h
noncomputable def S_X6_advance_89 (σ : sw_St) (x1 : Int32) : Option (Unit × sw_St) :=
  (F_X6_isLetter σ (σ.1 2 3)).bind fun q1 => if q1.1 = 0 then ((F_X6_isDigit q1.2 (q1.2.1 2 3)).bind fun q2 => if q2.1 = 0 then ((q2.2.2.2 2 0).bind fun w3 => (if sw_isA sw_gX w3 1 = true then (if sw_inb (q2.2.1 2 3) (sw_ln sw_gX w3) = true then (some ((), (sw_uI (sw_uI q2.2 2 4 ((q2.2.1 2 4) + 1)) 2 2 (((sw_uI q2.2 2 4 ((q2.2.1 2 4) + 1)).1 w3 ((q2.2.1 2 3).toNatClampNeg)) &&& 255)))) else none) else none)) else (L_X6_advance_157 sw_fuel q2.2 x1)) else (L_X6_advance_100 sw_fuel q1.2 x1)
theorem SC_X6_advance_89 {E : sw_E} {d : Nat} (hd : 5 ≤ d) {p : Unit × sw_St} {σ : sw_St} {x1 : Int32} (h : S_X6_advance_89 σ x1 = some p) : sw_W E sw_gX m_X6_advance d 89 [(0, .ref 2), (1, .int x1)] [] σ (sw_pV p) := by
  unfold S_X6_advance_89 at h
  obtain ⟨q1, hq, h⟩ := sw_bnd h
  refine B_X6_advance_89  (FC_X6_isLetter (Nat.le_refl _) hq) (Nat.lt_of_lt_of_le (by decide) hd) (fun v s hvs => ?_)
  obtain ⟨hv1, hv2⟩ := hvs; subst hv1; subst hv2
  refine B_X6_advance_97  (fun hc => ?_) (fun hc => ?_)
  · rw [if_pos hc] at h
    obtain ⟨q2, hq, h⟩ := sw_bnd h
    refine B_X6_advance_146  (FC_X6_isDigit (Nat.le_refl _) hq) (Nat.lt_of_lt_of_le (by decide) hd) (fun v s hvs => ?_)
    obtain ⟨hv1, hv2⟩ := hvs; subst hv1; subst hv2
    refine B_X6_advance_154  (fun hc => ?_) (fun hc => ?_)
    · rw [if_pos hc] at h
      obtain ⟨w3, ow3, h⟩ := sw_bnd h
      obtain ⟨o4, h⟩ := sw_ifs h
      obtain ⟨o5, h⟩ := sw_ifs h
      cases h
      exact B_X6_advance_202 ow3 o4 (sw_inb_sp o5) ⟨rfl, rfl⟩
    · rw [if_neg hc] at h
      exact LC_X6_advance_157 hd _ _ _ h
  · rw [if_neg hc] at h
    exact LC_X6_advance_100 hd _ _ _ h
noncomputable def S_X6_advance_81 (σ : sw_St) : Option (Unit × sw_St) :=
  some ((), (sw_uI σ 2 2 301))
theorem SC_X6_advance_81 {E : sw_E} {d : Nat} (hd : 5 ≤ d) {p : Unit × sw_St} {σ : sw_St} (h : S_X6_advance_81 σ  = some p) : sw_W E sw_gX m_X6_advance d 81 [(0, .ref 2)] [] σ (sw_pV p) := by
  unfold S_X6_advance_81 at h
  cases h
  exact B_X6_advance_81  ⟨rfl, rfl⟩
noncomputable def S_X6_advance_62 (σ : sw_St) (x1 : Int32) : Option (Unit × sw_St) :=
  if (σ.1 2 3) < (σ.1 2 1) then (S_X6_advance_89 (sw_uI σ 2 4 (σ.1 2 3)) x1) else (S_X6_advance_81 (sw_uI σ 2 4 (σ.1 2 3)) )
theorem SC_X6_advance_62 {E : sw_E} {d : Nat} (hd : 5 ≤ d) {p : Unit × sw_St} {σ : sw_St} {x1 : Int32} (h : S_X6_advance_62 σ x1 = some p) : sw_W E sw_gX m_X6_advance d 62 [(0, .ref 2), (1, .int x1)] [] σ (sw_pV p) := by
  unfold S_X6_advance_62 at h
  refine B_X6_advance_62  (fun hc => ?_) (fun hc => ?_)
  · rw [if_pos hc] at h
    exact SC_X6_advance_89 hd h
  · rw [if_neg hc] at h
    exact SC_X6_advance_81 hd h
noncomputable def S_X6_advance_49 (c10 : sw_St → Int32 → Option (Unit × sw_St)) (σ : sw_St) (x1 : Int32) : Option (Unit × sw_St) :=
  c10 (sw_uI σ 2 3 ((σ.1 2 3) + 1)) x1
theorem SC_X6_advance_49 {E : sw_E} {d : Nat} (hd : 5 ≤ d) {p : Unit × sw_St} {c10 : sw_St → Int32 → Option (Unit × sw_St)} (h10 : ∀ (σ : sw_St) (x1 : Int32), c10 σ x1 = some p → sw_W E sw_gX m_X6_advance d 10 [(0, .ref 2), (1, .int x1)] [] σ (sw_pV p)) {σ : sw_St} {x1 : Int32} (h : S_X6_advance_49 c10 σ x1 = some p) : sw_W E sw_gX m_X6_advance d 49 [(0, .ref 2), (1, .int x1)] [] σ (sw_pV p) := by
  unfold S_X6_advance_49 at h
  refine B_X6_advance_49  ?_
  exact h10 _ _ h
noncomputable def S_X6_advance_10 (c10 : sw_St → Int32 → Option (Unit × sw_St)) (σ : sw_St) (x1 : Int32) : Option (Unit × sw_St) :=
  if (σ.1 2 1) ≤ (σ.1 2 3) then (S_X6_advance_62 σ x1) else ((σ.2.2 2 0).bind fun w1 => (if sw_isA sw_gX w1 1 = true then (if sw_inb (σ.1 2 3) (sw_ln sw_gX w1) = true then (if (σ.1 w1 ((σ.1 2 3).toNatClampNeg)) = 10 then (S_X6_advance_49 c10 σ x1) else ((σ.2.2 2 0).bind fun w4 => (if sw_isA sw_gX w4 1 = true then (if sw_inb (σ.1 2 3) (sw_ln sw_gX w4) = true then (if (σ.1 w4 ((σ.1 2 3).toNatClampNeg)) = 32 then (S_X6_advance_49 c10 σ x1) else (S_X6_advance_62 σ x1)) else none) else none))) else none) else none))
theorem SC_X6_advance_10 {E : sw_E} {d : Nat} (hd : 5 ≤ d) {p : Unit × sw_St} {c10 : sw_St → Int32 → Option (Unit × sw_St)} (h10 : ∀ (σ : sw_St) (x1 : Int32), c10 σ x1 = some p → sw_W E sw_gX m_X6_advance d 10 [(0, .ref 2), (1, .int x1)] [] σ (sw_pV p)) {σ : sw_St} {x1 : Int32} (h : S_X6_advance_10 c10 σ x1 = some p) : sw_W E sw_gX m_X6_advance d 10 [(0, .ref 2), (1, .int x1)] [] σ (sw_pV p) := by
  unfold S_X6_advance_10 at h
  refine B_X6_advance_10  (fun hc => ?_) (fun hc => ?_)
  · rw [if_pos hc] at h
    exact SC_X6_advance_62 hd h
  · rw [if_neg hc] at h
    obtain ⟨w1, ow1, h⟩ := sw_bnd h
    obtain ⟨o2, h⟩ := sw_ifs h
    obtain ⟨o3, h⟩ := sw_ifs h
    refine B_X6_advance_21 ow1 o2 (sw_inb_sp o3) (fun hc => ?_) (fun hc => ?_)
    · rw [if_pos hc] at h
      exact SC_X6_advance_49 hd h10 h
    · rw [if_neg hc] at h
      obtain ⟨w4, ow4, h⟩ := sw_bnd h
      obtain ⟨o5, h⟩ := sw_ifs h
      obtain ⟨o6, h⟩ := sw_ifs h
      refine B_X6_advance_35 ow4 o5 (sw_inb_sp o6) (fun hc => ?_) (fun hc => ?_)
      · rw [if_neg hc] at h
        exact SC_X6_advance_62 hd h
      · rw [if_pos hc] at h
        exact SC_X6_advance_49 hd h10 h
noncomputable def L_X6_advance_10 : Nat → sw_St → Int32 → Option (Unit × sw_St)
  | 0, _, _ => none
  | k + 1, σ, x1 => S_X6_advance_10 (fun σ x1 => L_X6_advance_10 k σ x1) σ x1
theorem LC_X6_advance_10 {E : sw_E} {d : Nat} (hd : 5 ≤ d) {p : Unit × sw_St} : ∀ (k : Nat) (σ : sw_St) (x1 : Int32), L_X6_advance_10 k σ x1 = some p → sw_W E sw_gX m_X6_advance d 10 [(0, .ref 2), (1, .int x1)] [] σ (sw_pV p) := by
  intro k
  induction k with
  | zero => intro σ x1 h; cases h
  | succ k ih => intro σ x1 h; exact SC_X6_advance_10 hd ih h
noncomputable def F_X6_advance (σ : sw_St) : Option (Unit × sw_St) :=
  L_X6_advance_10 sw_fuel (sw_uI σ 2 3 (σ.1 2 4)) (σ.1 2 4)
theorem FC_X6_advance {E : sw_E} {d : Nat} (hd : 5 ≤ d) {p : Unit × sw_St} {σ : sw_St} (h : F_X6_advance σ  = some p) : sw_KV E sw_gX m_X6_advance d [.ref 2] σ (fun s => s = p.2) := by
  unfold F_X6_advance at h
  refine sw_K.of (by decide +kernel) rfl (Nat.le_of_ble_eq_true rfl) ?_
  show sw_W E sw_gX m_X6_advance d 0 [(0, .ref 2)] [] σ (sw_pV p)
  refine B_X6_advance_0  ?_
  exact LC_X6_advance_10 hd _ _ _ h
/-! StrayWool$Reader.expect(I)Z -/
noncomputable def F_X6_expect (σ : sw_St) (x1 : Int32) : Option (Int32 × sw_St) :=
  if (σ.1 2 2) = x1 then ((F_X6_advance σ ).bind fun q1 => some (1, q1.2)) else ((F_X6_fail σ 1 (σ.1 2 3)).bind fun q2 => if q2.1 = 0 ∨ q2.1 = 1 then some (q2.1, q2.2) else none)
theorem FC_X6_expect {E : sw_E} {d : Nat} (hd : 6 ≤ d) {p : Int32 × sw_St} {σ : sw_St} {x1 : Int32} (h : F_X6_expect σ x1 = some p) : sw_KI E sw_gX m_X6_expect d [.ref 2, .int x1] σ (fun v s => v = p.1 ∧ s = p.2) := by
  unfold F_X6_expect at h
  refine sw_K.of (by decide +kernel) rfl (Nat.le_of_ble_eq_true rfl) ?_
  show sw_W E sw_gX m_X6_expect d 0 [(0, .ref 2), (1, .int x1)] [] σ (sw_pI p)
  refine B_X6_expect_0  (fun hc => ?_) (fun hc => ?_)
  · rw [if_pos hc] at h
    obtain ⟨q1, hq, h⟩ := sw_bnd h
    refine B_X6_expect_18  (FC_X6_advance (Nat.le_refl _) hq) (Nat.lt_of_lt_of_le (by decide) hd) (fun s hvs => ?_)
    subst hvs
    cases h
    exact B_X6_expect_22  ⟨_, rfl, rfl, rfl⟩
  · rw [if_neg hc] at h
    obtain ⟨q2, hq, h⟩ := sw_bnd h
    refine B_X6_expect_8  (FC_X6_fail (Nat.le_refl _) hq) (Nat.lt_of_lt_of_le (by decide) hd) (fun v s hvs => ?_)
    obtain ⟨hv1, hv2⟩ := hvs; subst hv1; subst hv2
    obtain ⟨hz, h⟩ := sw_ifs h
    cases h
    exact B_X6_expect_17  hz ⟨_, rfl, rfl, rfl⟩
/-! StrayWool$Reader.takeNumber(II)I -/
noncomputable def S_X6_takeNumber_98 (σ : sw_St) : Option (Int32 × sw_St) :=
  (F_X6_fail σ 2 (σ.1 2 3)).bind fun q1 => some ((-1), q1.2)
theorem SC_X6_takeNumber_98 {E : sw_E} {d : Nat} (hd : 6 ≤ d) {p : Int32 × sw_St} {σ : sw_St} (h : S_X6_takeNumber_98 σ  = some p) : sw_W E sw_gX m_X6_takeNumber d 98 [(0, .ref 2)] [] σ (sw_pI p) := by
  unfold S_X6_takeNumber_98 at h
  obtain ⟨q1, hq, h⟩ := sw_bnd h
  refine B_X6_takeNumber_98  (FC_X6_fail (Nat.le_refl _) hq) (Nat.lt_of_lt_of_le (by decide) hd) (fun v s hvs => ?_)
  obtain ⟨hv1, hv2⟩ := hvs; subst hv1; subst hv2
  cases h
  exact B_X6_takeNumber_107  ⟨_, rfl, rfl, rfl⟩
noncomputable def S_X6_takeNumber_57 (c57 : sw_St → Int32 → Int32 → Int32 → Int32 → Option (Int32 × sw_St)) (σ : sw_St) (x1 : Int32) (x2 : Int32) (x3 : Int32) (x4 : Int32) : Option (Int32 × sw_St) :=
  if (σ.1 2 4) ≤ x4 then (if x3 < x1 then (S_X6_takeNumber_98 σ ) else (if x3 ≤ x2 then ((F_X6_advance σ ).bind fun q1 => some (x3, q1.2)) else (S_X6_takeNumber_98 σ ))) else ((σ.2.2 2 0).bind fun w2 => (if sw_isA sw_gX w2 1 = true then (if sw_inb x4 (sw_ln sw_gX w2) = true then (c57 σ x1 x2 (((x3 * 10) + (σ.1 w2 x4.toNatClampNeg)) - 48) (x4 + 1)) else none) else none))
theorem SC_X6_takeNumber_57 {E : sw_E} {d : Nat} (hd : 6 ≤ d) {p : Int32 × sw_St} {c57 : sw_St → Int32 → Int32 → Int32 → Int32 → Option (Int32 × sw_St)} (h57 : ∀ (σ : sw_St) (x1 : Int32) (x2 : Int32) (x3 : Int32) (x4 : Int32), c57 σ x1 x2 x3 x4 = some p → sw_W E sw_gX m_X6_takeNumber d 57 [(0, .ref 2), (1, .int x1), (2, .int x2), (3, .int x3), (4, .int x4)] [] σ (sw_pI p)) {σ : sw_St} {x1 : Int32} {x2 : Int32} {x3 : Int32} {x4 : Int32} (h : S_X6_takeNumber_57 c57 σ x1 x2 x3 x4 = some p) : sw_W E sw_gX m_X6_takeNumber d 57 [(0, .ref 2), (1, .int x1), (2, .int x2), (3, .int x3), (4, .int x4)] [] σ (sw_pI p) := by
  unfold S_X6_takeNumber_57 at h
  refine B_X6_takeNumber_57  (fun hc => ?_) (fun hc => ?_)
  · rw [if_pos hc] at h
    refine B_X6_takeNumber_88  (fun hc => ?_) (fun hc => ?_)
    · rw [if_pos hc] at h
      exact SC_X6_takeNumber_98 hd h
    · rw [if_neg hc] at h
      refine B_X6_takeNumber_93  (fun hc => ?_) (fun hc => ?_)
      · rw [if_pos hc] at h
        obtain ⟨q1, hq, h⟩ := sw_bnd h
        refine B_X6_takeNumber_110  (FC_X6_advance (Nat.le_refl _) hq) (Nat.lt_of_lt_of_le (by decide) hd) (fun s hvs => ?_)
        subst hvs
        cases h
        exact B_X6_takeNumber_114  ⟨_, rfl, rfl, rfl⟩
      · rw [if_neg hc] at h
        exact SC_X6_takeNumber_98 hd h
  · rw [if_neg hc] at h
    obtain ⟨w2, ow2, h⟩ := sw_bnd h
    obtain ⟨o3, h⟩ := sw_ifs h
    obtain ⟨o4, h⟩ := sw_ifs h
    refine B_X6_takeNumber_66 ow2 o3 (sw_inb_sp o4) ?_
    exact h57 _ _ _ _ _ h
noncomputable def L_X6_takeNumber_57 : Nat → sw_St → Int32 → Int32 → Int32 → Int32 → Option (Int32 × sw_St)
  | 0, _, _, _, _, _ => none
  | k + 1, σ, x1, x2, x3, x4 => S_X6_takeNumber_57 (fun σ x1 x2 x3 x4 => L_X6_takeNumber_57 k σ x1 x2 x3 x4) σ x1 x2 x3 x4
theorem LC_X6_takeNumber_57 {E : sw_E} {d : Nat} (hd : 6 ≤ d) {p : Int32 × sw_St} : ∀ (k : Nat) (σ : sw_St) (x1 : Int32) (x2 : Int32) (x3 : Int32) (x4 : Int32), L_X6_takeNumber_57 k σ x1 x2 x3 x4 = some p → sw_W E sw_gX m_X6_takeNumber d 57 [(0, .ref 2), (1, .int x1), (2, .int x2), (3, .int x3), (4, .int x4)] [] σ (sw_pI p) := by
  intro k
  induction k with
  | zero => intro σ x1 x2 x3 x4 h; cases h
  | succ k ih => intro σ x1 x2 x3 x4 h; exact SC_X6_takeNumber_57 hd ih h
noncomputable def F_X6_takeNumber (σ : sw_St) (x1 : Int32) (x2 : Int32) : Option (Int32 × sw_St) :=
  if (σ.1 2 2) = 300 then (if ((σ.1 2 4) - (σ.1 2 3)) ≤ 4 then (L_X6_takeNumber_57 sw_fuel σ x1 x2 0 (σ.1 2 3)) else ((F_X6_fail σ 1 ((σ.1 2 3) + 4)).bind fun q1 => some ((-1), q1.2))) else ((F_X6_fail σ 1 (σ.1 2 3)).bind fun q2 => some ((-1), q2.2))
theorem FC_X6_takeNumber {E : sw_E} {d : Nat} (hd : 6 ≤ d) {p : Int32 × sw_St} {σ : sw_St} {x1 : Int32} {x2 : Int32} (h : F_X6_takeNumber σ x1 x2 = some p) : sw_KI E sw_gX m_X6_takeNumber d [.ref 2, .int x1, .int x2] σ (fun v s => v = p.1 ∧ s = p.2) := by
  unfold F_X6_takeNumber at h
  refine sw_K.of (by decide +kernel) rfl (Nat.le_of_ble_eq_true rfl) ?_
  show sw_W E sw_gX m_X6_takeNumber d 0 [(0, .ref 2), (1, .int x1), (2, .int x2)] [] σ (sw_pI p)
  refine B_X6_takeNumber_0  (fun hc => ?_) (fun hc => ?_)
  · rw [if_pos hc] at h
    refine B_X6_takeNumber_22  (fun hc => ?_) (fun hc => ?_)
    · rw [if_pos hc] at h
      refine B_X6_takeNumber_49  ?_
      exact LC_X6_takeNumber_57 hd _ _ _ _ _ _ h
    · rw [if_neg hc] at h
      obtain ⟨q1, hq, h⟩ := sw_bnd h
      refine B_X6_takeNumber_35  (FC_X6_fail (Nat.le_refl _) hq) (Nat.lt_of_lt_of_le (by decide) hd) (fun v s hvs => ?_)
      obtain ⟨hv1, hv2⟩ := hvs; subst hv1; subst hv2
      cases h
      exact B_X6_takeNumber_46  ⟨_, rfl, rfl, rfl⟩
  · rw [if_neg hc] at h
    obtain ⟨q2, hq, h⟩ := sw_bnd h
    refine B_X6_takeNumber_10  (FC_X6_fail (Nat.le_refl _) hq) (Nat.lt_of_lt_of_le (by decide) hd) (fun v s hvs => ?_)
    obtain ⟨hv1, hv2⟩ := hvs; subst hv1; subst hv2
    cases h
    exact B_X6_takeNumber_19  ⟨_, rfl, rfl, rfl⟩

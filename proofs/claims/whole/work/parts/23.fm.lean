/-! StrayWoolModel.qGoesOnTest()Z -/
noncomputable def S_X11_qGoesOnTest_208 (σ : sw_St) : Option (Int32 × sw_St) :=
  some (0, σ)
theorem SC_X11_qGoesOnTest_208 {E : sw_E} {d : Nat} (hd : 3 ≤ d) {p : Int32 × sw_St} {σ : sw_St} (h : S_X11_qGoesOnTest_208 σ  = some p) : sw_W E sw_gM m_X11_qGoesOnTest d 208 [] [] σ (sw_pI p) := by
  unfold S_X11_qGoesOnTest_208 at h
  cases h
  exact B_X11_qGoesOnTest_208  ⟨_, rfl, rfl, rfl⟩
noncomputable def S_X11_qGoesOnTest_155 (c137 : sw_St → Option (Int32 × sw_St)) (σ : sw_St) : Option (Int32 × sw_St) :=
  (F_X11_qDrops σ ).bind fun q1 => c137 q1.2 
theorem SC_X11_qGoesOnTest_155 {E : sw_E} {d : Nat} (hd : 3 ≤ d) {p : Int32 × sw_St} {c137 : sw_St → Option (Int32 × sw_St)} (h137 : ∀ (σ : sw_St), c137 σ  = some p → sw_W E sw_gM m_X11_qGoesOnTest d 137 [(0, .ref 0)] [] σ (sw_pI p)) {σ : sw_St} (h : S_X11_qGoesOnTest_155 c137 σ  = some p) : sw_W E sw_gM m_X11_qGoesOnTest d 155 [(0, .ref 0)] [] σ (sw_pI p) := by
  unfold S_X11_qGoesOnTest_155 at h
  obtain ⟨q1, hq, h⟩ := sw_bnd h
  refine B_X11_qGoesOnTest_155  (FC_X11_qDrops (Nat.le_refl _) hq) (Nat.lt_of_lt_of_le (by decide) hd) (fun s hvs => ?_)
  subst hvs
  refine B_X11_qGoesOnTest_159  ?_
  exact h137 _  h
noncomputable def S_X11_qGoesOnTest_137 (c137 : sw_St → Option (Int32 × sw_St)) (σ : sw_St) : Option (Int32 × sw_St) :=
  (F_X11_qIsOn σ 10).bind fun q1 => if q1.1 = 0 then ((F_X11_qIsOn q1.2 11).bind fun q2 => if q2.1 = 0 then (if sw_inb (q2.2.1 0 97) 1700 = true then (some (1, (sw_uI (sw_uI q2.2 72 ((q2.2.1 0 97).toNatClampNeg) 11) 0 97 ((q2.2.1 0 97) + 1)))) else none) else (S_X11_qGoesOnTest_155 c137 q2.2 )) else (S_X11_qGoesOnTest_155 c137 q1.2 )
theorem SC_X11_qGoesOnTest_137 {E : sw_E} {d : Nat} (hd : 3 ≤ d) {p : Int32 × sw_St} {c137 : sw_St → Option (Int32 × sw_St)} (h137 : ∀ (σ : sw_St), c137 σ  = some p → sw_W E sw_gM m_X11_qGoesOnTest d 137 [(0, .ref 0)] [] σ (sw_pI p)) {σ : sw_St} (h : S_X11_qGoesOnTest_137 c137 σ  = some p) : sw_W E sw_gM m_X11_qGoesOnTest d 137 [(0, .ref 0)] [] σ (sw_pI p) := by
  unfold S_X11_qGoesOnTest_137 at h
  obtain ⟨q1, hq, h⟩ := sw_bnd h
  refine B_X11_qGoesOnTest_137  (FC_X11_qIsOn (Nat.le_refl _) hq) (Nat.lt_of_lt_of_le (by decide) hd) (fun v s hvs => ?_)
  obtain ⟨hv1, hv2⟩ := hvs; subst hv1; subst hv2
  refine B_X11_qGoesOnTest_143  (fun hc => ?_) (fun hc => ?_)
  · rw [if_neg hc] at h
    exact SC_X11_qGoesOnTest_155 hd h137 h
  · rw [if_pos hc] at h
    obtain ⟨q2, hq, h⟩ := sw_bnd h
    refine B_X11_qGoesOnTest_146  (FC_X11_qIsOn (Nat.le_refl _) hq) (Nat.lt_of_lt_of_le (by decide) hd) (fun v s hvs => ?_)
    obtain ⟨hv1, hv2⟩ := hvs; subst hv1; subst hv2
    refine B_X11_qGoesOnTest_152  (fun hc => ?_) (fun hc => ?_)
    · rw [if_pos hc] at h
      obtain ⟨o3, h⟩ := sw_ifs h
      cases h
      exact B_X11_qGoesOnTest_162 (sw_inb_sp o3) ⟨_, rfl, rfl, rfl⟩
    · rw [if_neg hc] at h
      exact SC_X11_qGoesOnTest_155 hd h137 h
noncomputable def L_X11_qGoesOnTest_137 : Nat → sw_St → Option (Int32 × sw_St)
  | 0, _ => none
  | k + 1, σ => S_X11_qGoesOnTest_137 (fun σ => L_X11_qGoesOnTest_137 k σ ) σ 
theorem LC_X11_qGoesOnTest_137 {E : sw_E} {d : Nat} (hd : 3 ≤ d) {p : Int32 × sw_St} : ∀ (k : Nat) (σ : sw_St), L_X11_qGoesOnTest_137 k σ  = some p → sw_W E sw_gM m_X11_qGoesOnTest d 137 [(0, .ref 0)] [] σ (sw_pI p) := by
  intro k
  induction k with
  | zero => intro σ h; cases h
  | succ k ih => intro σ h; exact SC_X11_qGoesOnTest_137 hd ih h
noncomputable def S_X11_qGoesOnTest_87 (c87 : sw_St → Option (Int32 × sw_St)) (σ : sw_St) : Option (Int32 × sw_St) :=
  (F_X11_qIsOn σ 10).bind fun q1 => if q1.1 = 0 then (if sw_inb (q1.2.1 0 97) 1700 = true then (some (1, (sw_uI (sw_uI q1.2 72 ((q1.2.1 0 97).toNatClampNeg) 10) 0 97 ((q1.2.1 0 97) + 1)))) else none) else ((F_X11_qDrops q1.2 ).bind fun q3 => c87 q3.2 )
theorem SC_X11_qGoesOnTest_87 {E : sw_E} {d : Nat} (hd : 3 ≤ d) {p : Int32 × sw_St} {c87 : sw_St → Option (Int32 × sw_St)} (h87 : ∀ (σ : sw_St), c87 σ  = some p → sw_W E sw_gM m_X11_qGoesOnTest d 87 [(0, .ref 0)] [] σ (sw_pI p)) {σ : sw_St} (h : S_X11_qGoesOnTest_87 c87 σ  = some p) : sw_W E sw_gM m_X11_qGoesOnTest d 87 [(0, .ref 0)] [] σ (sw_pI p) := by
  unfold S_X11_qGoesOnTest_87 at h
  obtain ⟨q1, hq, h⟩ := sw_bnd h
  refine B_X11_qGoesOnTest_87  (FC_X11_qIsOn (Nat.le_refl _) hq) (Nat.lt_of_lt_of_le (by decide) hd) (fun v s hvs => ?_)
  obtain ⟨hv1, hv2⟩ := hvs; subst hv1; subst hv2
  refine B_X11_qGoesOnTest_93  (fun hc => ?_) (fun hc => ?_)
  · rw [if_pos hc] at h
    obtain ⟨o2, h⟩ := sw_ifs h
    cases h
    exact B_X11_qGoesOnTest_103 (sw_inb_sp o2) ⟨_, rfl, rfl, rfl⟩
  · rw [if_neg hc] at h
    obtain ⟨q3, hq, h⟩ := sw_bnd h
    refine B_X11_qGoesOnTest_96  (FC_X11_qDrops (Nat.le_refl _) hq) (Nat.lt_of_lt_of_le (by decide) hd) (fun s hvs => ?_)
    subst hvs
    refine B_X11_qGoesOnTest_100  ?_
    exact h87 _  h
noncomputable def L_X11_qGoesOnTest_87 : Nat → sw_St → Option (Int32 × sw_St)
  | 0, _ => none
  | k + 1, σ => S_X11_qGoesOnTest_87 (fun σ => L_X11_qGoesOnTest_87 k σ ) σ 
theorem LC_X11_qGoesOnTest_87 {E : sw_E} {d : Nat} (hd : 3 ≤ d) {p : Int32 × sw_St} : ∀ (k : Nat) (σ : sw_St), L_X11_qGoesOnTest_87 k σ  = some p → sw_W E sw_gM m_X11_qGoesOnTest d 87 [(0, .ref 0)] [] σ (sw_pI p) := by
  intro k
  induction k with
  | zero => intro σ h; cases h
  | succ k ih => intro σ h; exact SC_X11_qGoesOnTest_87 hd ih h
noncomputable def S_X11_qGoesOnTest_76 (σ : sw_St) : Option (Int32 × sw_St) :=
  (F_X11_takes σ 54).bind fun q1 => if q1.1 = 0 then ((F_X11_takes q1.2 55).bind fun q2 => if q2.1 = 0 then (if (q2.2.1 0 5) = 0 then ((F_X11_qHasSquare q2.2 ).bind fun q3 => if q3.1 = 0 then (S_X11_qGoesOnTest_208 q3.2 ) else ((F_X11_fail q3.2 1 (q3.2.1 0 2)).bind fun q4 => S_X11_qGoesOnTest_208 q4.2 )) else (S_X11_qGoesOnTest_208 q2.2 )) else (L_X11_qGoesOnTest_137 sw_fuel q2.2 )) else (L_X11_qGoesOnTest_87 sw_fuel q1.2 )
theorem SC_X11_qGoesOnTest_76 {E : sw_E} {d : Nat} (hd : 3 ≤ d) {p : Int32 × sw_St} {σ : sw_St} (h : S_X11_qGoesOnTest_76 σ  = some p) : sw_W E sw_gM m_X11_qGoesOnTest d 76 [(0, .ref 0)] [] σ (sw_pI p) := by
  unfold S_X11_qGoesOnTest_76 at h
  obtain ⟨q1, hq, h⟩ := sw_bnd h
  refine B_X11_qGoesOnTest_76  (FC_X11_takes (Nat.le_refl _) hq) (Nat.lt_of_lt_of_le (by decide) hd) (fun v s hvs => ?_)
  obtain ⟨hv1, hv2⟩ := hvs; subst hv1; subst hv2
  refine B_X11_qGoesOnTest_84  (fun hc => ?_) (fun hc => ?_)
  · rw [if_pos hc] at h
    obtain ⟨q2, hq, h⟩ := sw_bnd h
    refine B_X11_qGoesOnTest_126  (FC_X11_takes (Nat.le_refl _) hq) (Nat.lt_of_lt_of_le (by decide) hd) (fun v s hvs => ?_)
    obtain ⟨hv1, hv2⟩ := hvs; subst hv1; subst hv2
    refine B_X11_qGoesOnTest_134  (fun hc => ?_) (fun hc => ?_)
    · rw [if_pos hc] at h
      refine B_X11_qGoesOnTest_185  (fun hc => ?_) (fun hc => ?_)
      · rw [if_neg hc] at h
        exact SC_X11_qGoesOnTest_208 hd h
      · rw [if_pos hc] at h
        obtain ⟨q3, hq, h⟩ := sw_bnd h
        refine B_X11_qGoesOnTest_192  (FC_X11_qHasSquare (Nat.le_refl _) hq) (Nat.lt_of_lt_of_le (by decide) hd) (fun v s hvs => ?_)
        obtain ⟨hv1, hv2⟩ := hvs; subst hv1; subst hv2
        refine B_X11_qGoesOnTest_196  (fun hc => ?_) (fun hc => ?_)
        · rw [if_pos hc] at h
          exact SC_X11_qGoesOnTest_208 hd h
        · rw [if_neg hc] at h
          obtain ⟨q4, hq, h⟩ := sw_bnd h
          refine B_X11_qGoesOnTest_199  (FC_X11_fail (Nat.le_refl _) hq) (Nat.lt_of_lt_of_le (by decide) hd) (fun s hvs => ?_)
          subst hvs
          exact SC_X11_qGoesOnTest_208 hd h
    · rw [if_neg hc] at h
      exact LC_X11_qGoesOnTest_137 hd _ _  h
  · rw [if_neg hc] at h
    exact LC_X11_qGoesOnTest_87 hd _ _  h
noncomputable def S_X11_qGoesOnTest_33 (c0 : sw_St → Option (Int32 × sw_St)) (c33 : sw_St → Option (Int32 × sw_St)) (σ : sw_St) : Option (Int32 × sw_St) :=
  (F_X11_qIsOn σ 25).bind fun q1 => if q1.1 = 0 then ((F_X11_qDrops q1.2 ).bind fun q3 => c33 q3.2 ) else ((F_X11_qDropsNots (sw_uI (sw_uI q1.2 0 97 ((q1.2.1 0 97) - 1)) 0 98 ((q1.2.1 0 98) - 1)) ).bind fun q2 => c0 q2.2 )
theorem SC_X11_qGoesOnTest_33 {E : sw_E} {d : Nat} (hd : 3 ≤ d) {p : Int32 × sw_St} {c0 : sw_St → Option (Int32 × sw_St)} {c33 : sw_St → Option (Int32 × sw_St)} (h0 : ∀ (σ : sw_St), c0 σ  = some p → sw_W E sw_gM m_X11_qGoesOnTest d 0 [(0, .ref 0)] [] σ (sw_pI p)) (h33 : ∀ (σ : sw_St), c33 σ  = some p → sw_W E sw_gM m_X11_qGoesOnTest d 33 [(0, .ref 0)] [] σ (sw_pI p)) {σ : sw_St} (h : S_X11_qGoesOnTest_33 c0 c33 σ  = some p) : sw_W E sw_gM m_X11_qGoesOnTest d 33 [(0, .ref 0)] [] σ (sw_pI p) := by
  unfold S_X11_qGoesOnTest_33 at h
  obtain ⟨q1, hq, h⟩ := sw_bnd h
  refine B_X11_qGoesOnTest_33  (FC_X11_qIsOn (Nat.le_refl _) hq) (Nat.lt_of_lt_of_le (by decide) hd) (fun v s hvs => ?_)
  obtain ⟨hv1, hv2⟩ := hvs; subst hv1; subst hv2
  refine B_X11_qGoesOnTest_39  (fun hc => ?_) (fun hc => ?_)
  · rw [if_neg hc] at h
    obtain ⟨q2, hq, h⟩ := sw_bnd h
    refine B_X11_qGoesOnTest_49  (FC_X11_qDropsNots (Nat.le_refl _) hq) (Nat.lt_of_lt_of_le (by decide) hd) (fun s hvs => ?_)
    subst hvs
    refine B_X11_qGoesOnTest_73  ?_
    exact h0 _  h
  · rw [if_pos hc] at h
    obtain ⟨q3, hq, h⟩ := sw_bnd h
    refine B_X11_qGoesOnTest_42  (FC_X11_qDrops (Nat.le_refl _) hq) (Nat.lt_of_lt_of_le (by decide) hd) (fun s hvs => ?_)
    subst hvs
    refine B_X11_qGoesOnTest_46  ?_
    exact h33 _  h
noncomputable def L_X11_qGoesOnTest_33 (c0 : sw_St → Option (Int32 × sw_St)) : Nat → sw_St → Option (Int32 × sw_St)
  | 0, _ => none
  | k + 1, σ => S_X11_qGoesOnTest_33 c0 (fun σ => L_X11_qGoesOnTest_33 c0 k σ ) σ 
theorem LC_X11_qGoesOnTest_33 {E : sw_E} {d : Nat} (hd : 3 ≤ d) {p : Int32 × sw_St} {c0 : sw_St → Option (Int32 × sw_St)} (h0 : ∀ (σ : sw_St), c0 σ  = some p → sw_W E sw_gM m_X11_qGoesOnTest d 0 [(0, .ref 0)] [] σ (sw_pI p)) : ∀ (k : Nat) (σ : sw_St), L_X11_qGoesOnTest_33 c0 k σ  = some p → sw_W E sw_gM m_X11_qGoesOnTest d 33 [(0, .ref 0)] [] σ (sw_pI p) := by
  intro k
  induction k with
  | zero => intro σ h; cases h
  | succ k ih => intro σ h; exact SC_X11_qGoesOnTest_33 hd h0 ih h
noncomputable def S_X11_qGoesOnTest_0 (c0 : sw_St → Option (Int32 × sw_St)) (σ : sw_St) : Option (Int32 × sw_St) :=
  if (σ.1 0 5) = 0 then ((F_X11_look σ ).bind fun q1 => if q1.1 = 93 then ((F_X11_qHasSquare q1.2 ).bind fun q2 => if q2.1 = 0 then (S_X11_qGoesOnTest_76 q2.2 ) else (L_X11_qGoesOnTest_33 c0 sw_fuel (sw_uI q2.2 0 2 ((q2.2.1 0 2) + 1)) )) else (S_X11_qGoesOnTest_76 q1.2 )) else (S_X11_qGoesOnTest_76 σ )
theorem SC_X11_qGoesOnTest_0 {E : sw_E} {d : Nat} (hd : 3 ≤ d) {p : Int32 × sw_St} {c0 : sw_St → Option (Int32 × sw_St)} (h0 : ∀ (σ : sw_St), c0 σ  = some p → sw_W E sw_gM m_X11_qGoesOnTest d 0 [(0, .ref 0)] [] σ (sw_pI p)) {σ : sw_St} (h : S_X11_qGoesOnTest_0 c0 σ  = some p) : sw_W E sw_gM m_X11_qGoesOnTest d 0 [(0, .ref 0)] [] σ (sw_pI p) := by
  unfold S_X11_qGoesOnTest_0 at h
  refine B_X11_qGoesOnTest_0  (fun hc => ?_) (fun hc => ?_)
  · rw [if_neg hc] at h
    exact SC_X11_qGoesOnTest_76 hd h
  · rw [if_pos hc] at h
    obtain ⟨q1, hq, h⟩ := sw_bnd h
    refine B_X11_qGoesOnTest_7  (FC_X11_look (Nat.le_refl _) hq) (Nat.lt_of_lt_of_le (by decide) hd) (fun v s hvs => ?_)
    obtain ⟨hv1, hv2⟩ := hvs; subst hv1; subst hv2
    refine B_X11_qGoesOnTest_11  (fun hc => ?_) (fun hc => ?_)
    · rw [if_neg hc] at h
      exact SC_X11_qGoesOnTest_76 hd h
    · rw [if_pos hc] at h
      obtain ⟨q2, hq, h⟩ := sw_bnd h
      refine B_X11_qGoesOnTest_16  (FC_X11_qHasSquare (Nat.le_refl _) hq) (Nat.lt_of_lt_of_le (by decide) hd) (fun v s hvs => ?_)
      obtain ⟨hv1, hv2⟩ := hvs; subst hv1; subst hv2
      refine B_X11_qGoesOnTest_20  (fun hc => ?_) (fun hc => ?_)
      · rw [if_pos hc] at h
        exact SC_X11_qGoesOnTest_76 hd h
      · rw [if_neg hc] at h
        refine B_X11_qGoesOnTest_23  ?_
        exact LC_X11_qGoesOnTest_33 hd h0 _ _  h
noncomputable def L_X11_qGoesOnTest_0 : Nat → sw_St → Option (Int32 × sw_St)
  | 0, _ => none
  | k + 1, σ => S_X11_qGoesOnTest_0 (fun σ => L_X11_qGoesOnTest_0 k σ ) σ 
theorem LC_X11_qGoesOnTest_0 {E : sw_E} {d : Nat} (hd : 3 ≤ d) {p : Int32 × sw_St} : ∀ (k : Nat) (σ : sw_St), L_X11_qGoesOnTest_0 k σ  = some p → sw_W E sw_gM m_X11_qGoesOnTest d 0 [(0, .ref 0)] [] σ (sw_pI p) := by
  intro k
  induction k with
  | zero => intro σ h; cases h
  | succ k ih => intro σ h; exact SC_X11_qGoesOnTest_0 hd ih h
noncomputable def F_X11_qGoesOnTest (σ : sw_St) : Option (Int32 × sw_St) :=
  L_X11_qGoesOnTest_0 sw_fuel σ 
theorem FC_X11_qGoesOnTest {E : sw_E} {d : Nat} (hd : 3 ≤ d) {p : Int32 × sw_St} {σ : sw_St} (h : F_X11_qGoesOnTest σ  = some p) : sw_KI E sw_gM m_X11_qGoesOnTest d [.ref 0] σ (fun v s => v = p.1 ∧ s = p.2) := by
  unfold F_X11_qGoesOnTest at h
  refine sw_K.of (by decide +kernel) rfl (Nat.le_of_ble_eq_true rfl) ?_
  show sw_W E sw_gM m_X11_qGoesOnTest d 0 [(0, .ref 0)] [] σ (sw_pI p)
  exact LC_X11_qGoesOnTest_0 hd _ _  h
/-! StrayWoolModel.qClip(J)J -/
noncomputable def S_X11_qClip_29 (σ : sw_St) (sy0 : Int64) : Option (Int64 × sw_St) :=
  some (sy0, σ)
theorem SC_X11_qClip_29 {E : sw_E} {d : Nat} (hd : 0 ≤ d) {p : Int64 × sw_St} {σ : sw_St} {sy0 : Int64} (h : S_X11_qClip_29 σ sy0 = some p) : sw_W E sw_gM m_X11_qClip d 29 [] [.long sy0] σ (sw_pL p) := by
  unfold S_X11_qClip_29 at h
  cases h
  exact B_X11_qClip_29  ⟨_, rfl, rfl, rfl⟩
noncomputable def F_X11_qClip (σ : sw_St) (y0 : Int64) : Option (Int64 × sw_St) :=
  if (lg_cmp y0 1000000) ≤ 0 then (if 0 ≤ (lg_cmp y0 (-1000000)) then (S_X11_qClip_29 σ y0) else (S_X11_qClip_29 σ (-1000000))) else (S_X11_qClip_29 σ 1000000)
theorem FC_X11_qClip {E : sw_E} {d : Nat} (hd : 0 ≤ d) {p : Int64 × sw_St} {σ : sw_St} {y0 : Int64} (h : F_X11_qClip σ y0 = some p) : sw_KL E sw_gM m_X11_qClip d [.long y0] σ (fun v s => v = p.1 ∧ s = p.2) := by
  unfold F_X11_qClip at h
  refine sw_K.of (by decide +kernel) rfl (Nat.le_of_ble_eq_true rfl) ?_
  show sw_W E sw_gM m_X11_qClip d 0 [(0, .long y0)] [] σ (sw_pL p)
  refine B_X11_qClip_0  (fun hc => ?_) (fun hc => ?_)
  · rw [if_pos hc] at h
    refine B_X11_qClip_14  (fun hc => ?_) (fun hc => ?_)
    · rw [if_pos hc] at h
      refine B_X11_qClip_28  ?_
      exact SC_X11_qClip_29 hd h
    · rw [if_neg hc] at h
      refine B_X11_qClip_22  ?_
      exact SC_X11_qClip_29 hd h
  · rw [if_neg hc] at h
    refine B_X11_qClip_8  ?_
    exact SC_X11_qClip_29 hd h
/-! StrayWoolModel.qFloor(JJ)J -/
noncomputable def S_X11_qFloor_55 (σ : sw_St) (sy0 : Int64) : Option (Int64 × sw_St) :=
  some (sy0, σ)
theorem SC_X11_qFloor_55 {E : sw_E} {d : Nat} (hd : 0 ≤ d) {p : Int64 × sw_St} {σ : sw_St} {sy0 : Int64} (h : S_X11_qFloor_55 σ sy0 = some p) : sw_W E sw_gM m_X11_qFloor d 55 [] [.long sy0] σ (sw_pL p) := by
  unfold S_X11_qFloor_55 at h
  cases h
  exact B_X11_qFloor_55  ⟨_, rfl, rfl, rfl⟩
noncomputable def S_X11_qFloor_53 (σ : sw_St) (y4 : Int64) : Option (Int64 × sw_St) :=
  S_X11_qFloor_55 σ y4
theorem SC_X11_qFloor_53 {E : sw_E} {d : Nat} (hd : 0 ≤ d) {p : Int64 × sw_St} {σ : sw_St} {y4 : Int64} (h : S_X11_qFloor_53 σ y4 = some p) : sw_W E sw_gM m_X11_qFloor d 53 [(4, .long y4)] [] σ (sw_pL p) := by
  unfold S_X11_qFloor_53 at h
  refine B_X11_qFloor_53  ?_
  exact SC_X11_qFloor_55 hd h
noncomputable def S_X11_qFloor_43 (σ : sw_St) (y4 : Int64) (sx0 : Int32) (sx1 : Int32) : Option (Int64 × sw_St) :=
  if sx1 = sx0 then (S_X11_qFloor_53 σ y4) else (S_X11_qFloor_55 σ (y4 - 1))
theorem SC_X11_qFloor_43 {E : sw_E} {d : Nat} (hd : 0 ≤ d) {p : Int64 × sw_St} {σ : sw_St} {y4 : Int64} {sx0 : Int32} {sx1 : Int32} (h : S_X11_qFloor_43 σ y4 sx0 sx1 = some p) : sw_W E sw_gM m_X11_qFloor d 43 [(4, .long y4)] [.int sx0, .int sx1] σ (sw_pL p) := by
  unfold S_X11_qFloor_43 at h
  refine B_X11_qFloor_43  (fun hc => ?_) (fun hc => ?_)
  · rw [if_pos hc] at h
    exact SC_X11_qFloor_53 hd h
  · rw [if_neg hc] at h
    refine B_X11_qFloor_46  ?_
    exact SC_X11_qFloor_55 hd h
noncomputable def S_X11_qFloor_32 (σ : sw_St) (y2 : Int64) (y4 : Int64) (sx0 : Int32) : Option (Int64 × sw_St) :=
  if 0 ≤ (lg_cmp y2 0) then (S_X11_qFloor_43 σ y4 0 sx0) else (S_X11_qFloor_43 σ y4 1 sx0)
theorem SC_X11_qFloor_32 {E : sw_E} {d : Nat} (hd : 0 ≤ d) {p : Int64 × sw_St} {σ : sw_St} {y2 : Int64} {y4 : Int64} {sx0 : Int32} (h : S_X11_qFloor_32 σ y2 y4 sx0 = some p) : sw_W E sw_gM m_X11_qFloor d 32 [(2, .long y2), (4, .long y4)] [.int sx0] σ (sw_pL p) := by
  unfold S_X11_qFloor_32 at h
  refine B_X11_qFloor_32  (fun hc => ?_) (fun hc => ?_)
  · rw [if_pos hc] at h
    refine B_X11_qFloor_42  ?_
    exact SC_X11_qFloor_43 hd h
  · rw [if_neg hc] at h
    refine B_X11_qFloor_38  ?_
    exact SC_X11_qFloor_43 hd h
noncomputable def F_X11_qFloor (σ : sw_St) (y0 : Int64) (y2 : Int64) : Option (Int64 × sw_St) :=
  if (lg_cmp y2 0) = 0 then (some (0, σ)) else (if ¬ y2 = 0 then (if ¬ y2 = 0 then (if (lg_cmp (y0 - y0 / y2 * y2) 0) = 0 then (S_X11_qFloor_53 σ (y0 / y2)) else (if 0 ≤ (lg_cmp y0 0) then (S_X11_qFloor_32 σ y2 (y0 / y2) 0) else (S_X11_qFloor_32 σ y2 (y0 / y2) 1))) else none) else none)
theorem FC_X11_qFloor {E : sw_E} {d : Nat} (hd : 0 ≤ d) {p : Int64 × sw_St} {σ : sw_St} {y0 : Int64} {y2 : Int64} (h : F_X11_qFloor σ y0 y2 = some p) : sw_KL E sw_gM m_X11_qFloor d [.long y0, .long y2] σ (fun v s => v = p.1 ∧ s = p.2) := by
  unfold F_X11_qFloor at h
  refine sw_K.of (by decide +kernel) rfl (Nat.le_of_ble_eq_true rfl) ?_
  show sw_W E sw_gM m_X11_qFloor d 0 [(0, .long y0), (2, .long y2)] [] σ (sw_pL p)
  refine B_X11_qFloor_0  (fun hc => ?_) (fun hc => ?_)
  · rw [if_neg hc] at h
    obtain ⟨o1, h⟩ := sw_ifs h
    obtain ⟨o2, h⟩ := sw_ifs h
    refine B_X11_qFloor_8 o1 o2 (fun hc => ?_) (fun hc => ?_)
    · rw [if_pos hc] at h
      exact SC_X11_qFloor_53 hd h
    · rw [if_neg hc] at h
      refine B_X11_qFloor_21  (fun hc => ?_) (fun hc => ?_)
      · rw [if_pos hc] at h
        refine B_X11_qFloor_31  ?_
        exact SC_X11_qFloor_32 hd h
      · rw [if_neg hc] at h
        refine B_X11_qFloor_27  ?_
        exact SC_X11_qFloor_32 hd h
  · rw [if_pos hc] at h
    cases h
    exact B_X11_qFloor_6  ⟨_, rfl, rfl, rfl⟩
/-! StrayWoolModel.qPuts(J)V -/
noncomputable def F_X11_qPuts (σ : sw_St) (y1 : Int64) : Option (Unit × sw_St) :=
  if sw_inb (σ.1 0 101) 1700 = true then (some ((), (sw_uI (sw_uL σ 73 ((σ.1 0 101).toNatClampNeg) y1) 0 101 ((σ.1 0 101) + 1)))) else none
theorem FC_X11_qPuts {E : sw_E} {d : Nat} (hd : 0 ≤ d) {p : Unit × sw_St} {σ : sw_St} {y1 : Int64} (h : F_X11_qPuts σ y1 = some p) : sw_KV E sw_gM m_X11_qPuts d [.ref 0, .long y1] σ (fun s => s = p.2) := by
  unfold F_X11_qPuts at h
  refine sw_K.of (by decide +kernel) rfl (Nat.le_of_ble_eq_true rfl) ?_
  show sw_W E sw_gM m_X11_qPuts d 0 [(0, .ref 0), (1, .long y1)] [] σ (sw_pV p)
  obtain ⟨o1, h⟩ := sw_ifs h
  cases h
  exact B_X11_qPuts_0 (sw_inb_sp o1) ⟨rfl, rfl⟩
/-! StrayWoolModel.qJoins(I)V -/
noncomputable def S_X11_qJoins_273 (σ : sw_St) : Option (Unit × sw_St) :=
  some ((), σ)
theorem SC_X11_qJoins_273 {E : sw_E} {d : Nat} (hd : 1 ≤ d) {p : Unit × sw_St} {σ : sw_St} (h : S_X11_qJoins_273 σ  = some p) : sw_W E sw_gM m_X11_qJoins d 273 [] [] σ (sw_pV p) := by
  unfold S_X11_qJoins_273 at h
  cases h
  exact B_X11_qJoins_273  ⟨rfl, rfl⟩
noncomputable def S_X11_qJoins_92 (σ : sw_St) (y2 : Int64) (y4 : Int64) : Option (Unit × sw_St) :=
  (F_X11_qClip σ (y4 + y2)).bind fun q1 => (F_X11_qPuts q1.2 q1.1).bind fun q2 => S_X11_qJoins_273 q2.2 
theorem SC_X11_qJoins_92 {E : sw_E} {d : Nat} (hd : 1 ≤ d) {p : Unit × sw_St} {σ : sw_St} {y2 : Int64} {y4 : Int64} (h : S_X11_qJoins_92 σ y2 y4 = some p) : sw_W E sw_gM m_X11_qJoins d 92 [(0, .ref 0), (2, .long y2), (4, .long y4)] [] σ (sw_pV p) := by
  unfold S_X11_qJoins_92 at h
  obtain ⟨q1, hq, h⟩ := sw_bnd h
  refine B_X11_qJoins_92  (FC_X11_qClip (Nat.le_refl _) hq) (Nat.lt_of_lt_of_le (by decide) hd) (fun v s hvs => ?_)
  obtain ⟨hv1, hv2⟩ := hvs; subst hv1; subst hv2
  obtain ⟨q2, hq, h⟩ := sw_bnd h
  refine B_X11_qJoins_100  (FC_X11_qPuts (Nat.le_refl _) hq) (Nat.lt_of_lt_of_le (by decide) hd) (fun s hvs => ?_)
  subst hvs
  refine B_X11_qJoins_103  ?_
  exact SC_X11_qJoins_273 hd h
noncomputable def S_X11_qJoins_106 (σ : sw_St) (y2 : Int64) (y4 : Int64) : Option (Unit × sw_St) :=
  (F_X11_qClip σ (y4 - y2)).bind fun q1 => (F_X11_qPuts q1.2 q1.1).bind fun q2 => S_X11_qJoins_273 q2.2 
theorem SC_X11_qJoins_106 {E : sw_E} {d : Nat} (hd : 1 ≤ d) {p : Unit × sw_St} {σ : sw_St} {y2 : Int64} {y4 : Int64} (h : S_X11_qJoins_106 σ y2 y4 = some p) : sw_W E sw_gM m_X11_qJoins d 106 [(0, .ref 0), (2, .long y2), (4, .long y4)] [] σ (sw_pV p) := by
  unfold S_X11_qJoins_106 at h
  obtain ⟨q1, hq, h⟩ := sw_bnd h
  refine B_X11_qJoins_106  (FC_X11_qClip (Nat.le_refl _) hq) (Nat.lt_of_lt_of_le (by decide) hd) (fun v s hvs => ?_)
  obtain ⟨hv1, hv2⟩ := hvs; subst hv1; subst hv2
  obtain ⟨q2, hq, h⟩ := sw_bnd h
  refine B_X11_qJoins_114  (FC_X11_qPuts (Nat.le_refl _) hq) (Nat.lt_of_lt_of_le (by decide) hd) (fun s hvs => ?_)
  subst hvs
  refine B_X11_qJoins_117  ?_
  exact SC_X11_qJoins_273 hd h
noncomputable def S_X11_qJoins_120 (σ : sw_St) (y2 : Int64) (y4 : Int64) : Option (Unit × sw_St) :=
  (F_X11_qClip σ (y4 * y2)).bind fun q1 => (F_X11_qPuts q1.2 q1.1).bind fun q2 => S_X11_qJoins_273 q2.2 
theorem SC_X11_qJoins_120 {E : sw_E} {d : Nat} (hd : 1 ≤ d) {p : Unit × sw_St} {σ : sw_St} {y2 : Int64} {y4 : Int64} (h : S_X11_qJoins_120 σ y2 y4 = some p) : sw_W E sw_gM m_X11_qJoins d 120 [(0, .ref 0), (2, .long y2), (4, .long y4)] [] σ (sw_pV p) := by
  unfold S_X11_qJoins_120 at h
  obtain ⟨q1, hq, h⟩ := sw_bnd h
  refine B_X11_qJoins_120  (FC_X11_qClip (Nat.le_refl _) hq) (Nat.lt_of_lt_of_le (by decide) hd) (fun v s hvs => ?_)
  obtain ⟨hv1, hv2⟩ := hvs; subst hv1; subst hv2
  obtain ⟨q2, hq, h⟩ := sw_bnd h
  refine B_X11_qJoins_128  (FC_X11_qPuts (Nat.le_refl _) hq) (Nat.lt_of_lt_of_le (by decide) hd) (fun s hvs => ?_)
  subst hvs
  refine B_X11_qJoins_131  ?_
  exact SC_X11_qJoins_273 hd h
noncomputable def S_X11_qJoins_134 (σ : sw_St) (y2 : Int64) (y4 : Int64) : Option (Unit × sw_St) :=
  (F_X11_qFloor σ y4 y2).bind fun q1 => (F_X11_qPuts q1.2 q1.1).bind fun q2 => S_X11_qJoins_273 q2.2 
theorem SC_X11_qJoins_134 {E : sw_E} {d : Nat} (hd : 1 ≤ d) {p : Unit × sw_St} {σ : sw_St} {y2 : Int64} {y4 : Int64} (h : S_X11_qJoins_134 σ y2 y4 = some p) : sw_W E sw_gM m_X11_qJoins d 134 [(0, .ref 0), (2, .long y2), (4, .long y4)] [] σ (sw_pV p) := by
  unfold S_X11_qJoins_134 at h
  obtain ⟨q1, hq, h⟩ := sw_bnd h
  refine B_X11_qJoins_134  (FC_X11_qFloor (Nat.le_refl _) hq) (Nat.lt_of_lt_of_le (by decide) hd) (fun v s hvs => ?_)
  obtain ⟨hv1, hv2⟩ := hvs; subst hv1; subst hv2
  obtain ⟨q2, hq, h⟩ := sw_bnd h
  refine B_X11_qJoins_141  (FC_X11_qPuts (Nat.le_refl _) hq) (Nat.lt_of_lt_of_le (by decide) hd) (fun s hvs => ?_)
  subst hvs
  refine B_X11_qJoins_144  ?_
  exact SC_X11_qJoins_273 hd h
noncomputable def S_X11_qJoins_161 (σ : sw_St) (sy0 : Int64) : Option (Unit × sw_St) :=
  (F_X11_qPuts σ sy0).bind fun q1 => S_X11_qJoins_273 q1.2 
theorem SC_X11_qJoins_161 {E : sw_E} {d : Nat} (hd : 1 ≤ d) {p : Unit × sw_St} {σ : sw_St} {sy0 : Int64} (h : S_X11_qJoins_161 σ sy0 = some p) : sw_W E sw_gM m_X11_qJoins d 161 [] [.long sy0, .ref 0] σ (sw_pV p) := by
  unfold S_X11_qJoins_161 at h
  obtain ⟨q1, hq, h⟩ := sw_bnd h
  refine B_X11_qJoins_161  (FC_X11_qPuts (Nat.le_refl _) hq) (Nat.lt_of_lt_of_le (by decide) hd) (fun s hvs => ?_)
  subst hvs
  refine B_X11_qJoins_164  ?_
  exact SC_X11_qJoins_273 hd h
noncomputable def S_X11_qJoins_147 (σ : sw_St) (y2 : Int64) (y4 : Int64) : Option (Unit × sw_St) :=
  if 0 ≤ (lg_cmp y4 y2) then (S_X11_qJoins_161 σ y2) else (S_X11_qJoins_161 σ y4)
theorem SC_X11_qJoins_147 {E : sw_E} {d : Nat} (hd : 1 ≤ d) {p : Unit × sw_St} {σ : sw_St} {y2 : Int64} {y4 : Int64} (h : S_X11_qJoins_147 σ y2 y4 = some p) : sw_W E sw_gM m_X11_qJoins d 147 [(0, .ref 0), (2, .long y2), (4, .long y4)] [] σ (sw_pV p) := by
  unfold S_X11_qJoins_147 at h
  refine B_X11_qJoins_147  (fun hc => ?_) (fun hc => ?_)
  · rw [if_pos hc] at h
    refine B_X11_qJoins_160  ?_
    exact SC_X11_qJoins_161 hd h
  · rw [if_neg hc] at h
    refine B_X11_qJoins_155  ?_
    exact SC_X11_qJoins_161 hd h
noncomputable def S_X11_qJoins_181 (σ : sw_St) (sy0 : Int64) : Option (Unit × sw_St) :=
  (F_X11_qPuts σ sy0).bind fun q1 => S_X11_qJoins_273 q1.2 
theorem SC_X11_qJoins_181 {E : sw_E} {d : Nat} (hd : 1 ≤ d) {p : Unit × sw_St} {σ : sw_St} {sy0 : Int64} (h : S_X11_qJoins_181 σ sy0 = some p) : sw_W E sw_gM m_X11_qJoins d 181 [] [.long sy0, .ref 0] σ (sw_pV p) := by
  unfold S_X11_qJoins_181 at h
  obtain ⟨q1, hq, h⟩ := sw_bnd h
  refine B_X11_qJoins_181  (FC_X11_qPuts (Nat.le_refl _) hq) (Nat.lt_of_lt_of_le (by decide) hd) (fun s hvs => ?_)
  subst hvs
  refine B_X11_qJoins_184  ?_
  exact SC_X11_qJoins_273 hd h
noncomputable def S_X11_qJoins_167 (σ : sw_St) (y2 : Int64) (y4 : Int64) : Option (Unit × sw_St) :=
  if (lg_cmp y4 y2) ≤ 0 then (S_X11_qJoins_181 σ y2) else (S_X11_qJoins_181 σ y4)
theorem SC_X11_qJoins_167 {E : sw_E} {d : Nat} (hd : 1 ≤ d) {p : Unit × sw_St} {σ : sw_St} {y2 : Int64} {y4 : Int64} (h : S_X11_qJoins_167 σ y2 y4 = some p) : sw_W E sw_gM m_X11_qJoins d 167 [(0, .ref 0), (2, .long y2), (4, .long y4)] [] σ (sw_pV p) := by
  unfold S_X11_qJoins_167 at h
  refine B_X11_qJoins_167  (fun hc => ?_) (fun hc => ?_)
  · rw [if_pos hc] at h
    refine B_X11_qJoins_180  ?_
    exact SC_X11_qJoins_181 hd h
  · rw [if_neg hc] at h
    refine B_X11_qJoins_175  ?_
    exact SC_X11_qJoins_181 hd h
noncomputable def S_X11_qJoins_200 (σ : sw_St) (sy0 : Int64) : Option (Unit × sw_St) :=
  (F_X11_qPuts σ sy0).bind fun q1 => S_X11_qJoins_273 q1.2 
theorem SC_X11_qJoins_200 {E : sw_E} {d : Nat} (hd : 1 ≤ d) {p : Unit × sw_St} {σ : sw_St} {sy0 : Int64} (h : S_X11_qJoins_200 σ sy0 = some p) : sw_W E sw_gM m_X11_qJoins d 200 [] [.long sy0, .ref 0] σ (sw_pV p) := by
  unfold S_X11_qJoins_200 at h
  obtain ⟨q1, hq, h⟩ := sw_bnd h
  refine B_X11_qJoins_200  (FC_X11_qPuts (Nat.le_refl _) hq) (Nat.lt_of_lt_of_le (by decide) hd) (fun s hvs => ?_)
  subst hvs
  refine B_X11_qJoins_203  ?_
  exact SC_X11_qJoins_273 hd h
noncomputable def S_X11_qJoins_187 (σ : sw_St) (y2 : Int64) (y4 : Int64) : Option (Unit × sw_St) :=
  if 0 ≤ (lg_cmp y4 y2) then (S_X11_qJoins_200 σ 0) else (S_X11_qJoins_200 σ 1)
theorem SC_X11_qJoins_187 {E : sw_E} {d : Nat} (hd : 1 ≤ d) {p : Unit × sw_St} {σ : sw_St} {y2 : Int64} {y4 : Int64} (h : S_X11_qJoins_187 σ y2 y4 = some p) : sw_W E sw_gM m_X11_qJoins d 187 [(0, .ref 0), (2, .long y2), (4, .long y4)] [] σ (sw_pV p) := by
  unfold S_X11_qJoins_187 at h
  refine B_X11_qJoins_187  (fun hc => ?_) (fun hc => ?_)
  · rw [if_pos hc] at h
    refine B_X11_qJoins_199  ?_
    exact SC_X11_qJoins_200 hd h
  · rw [if_neg hc] at h
    refine B_X11_qJoins_195  ?_
    exact SC_X11_qJoins_200 hd h
noncomputable def S_X11_qJoins_219 (σ : sw_St) (sy0 : Int64) : Option (Unit × sw_St) :=
  (F_X11_qPuts σ sy0).bind fun q1 => S_X11_qJoins_273 q1.2 
theorem SC_X11_qJoins_219 {E : sw_E} {d : Nat} (hd : 1 ≤ d) {p : Unit × sw_St} {σ : sw_St} {sy0 : Int64} (h : S_X11_qJoins_219 σ sy0 = some p) : sw_W E sw_gM m_X11_qJoins d 219 [] [.long sy0, .ref 0] σ (sw_pV p) := by
  unfold S_X11_qJoins_219 at h
  obtain ⟨q1, hq, h⟩ := sw_bnd h
  refine B_X11_qJoins_219  (FC_X11_qPuts (Nat.le_refl _) hq) (Nat.lt_of_lt_of_le (by decide) hd) (fun s hvs => ?_)
  subst hvs
  refine B_X11_qJoins_222  ?_
  exact SC_X11_qJoins_273 hd h
noncomputable def S_X11_qJoins_206 (σ : sw_St) (y2 : Int64) (y4 : Int64) : Option (Unit × sw_St) :=
  if (lg_cmp y4 y2) ≤ 0 then (S_X11_qJoins_219 σ 0) else (S_X11_qJoins_219 σ 1)
theorem SC_X11_qJoins_206 {E : sw_E} {d : Nat} (hd : 1 ≤ d) {p : Unit × sw_St} {σ : sw_St} {y2 : Int64} {y4 : Int64} (h : S_X11_qJoins_206 σ y2 y4 = some p) : sw_W E sw_gM m_X11_qJoins d 206 [(0, .ref 0), (2, .long y2), (4, .long y4)] [] σ (sw_pV p) := by
  unfold S_X11_qJoins_206 at h
  refine B_X11_qJoins_206  (fun hc => ?_) (fun hc => ?_)
  · rw [if_pos hc] at h
    refine B_X11_qJoins_218  ?_
    exact SC_X11_qJoins_219 hd h
  · rw [if_neg hc] at h
    refine B_X11_qJoins_214  ?_
    exact SC_X11_qJoins_219 hd h
noncomputable def S_X11_qJoins_238 (σ : sw_St) (sy0 : Int64) : Option (Unit × sw_St) :=
  (F_X11_qPuts σ sy0).bind fun q1 => S_X11_qJoins_273 q1.2 
theorem SC_X11_qJoins_238 {E : sw_E} {d : Nat} (hd : 1 ≤ d) {p : Unit × sw_St} {σ : sw_St} {sy0 : Int64} (h : S_X11_qJoins_238 σ sy0 = some p) : sw_W E sw_gM m_X11_qJoins d 238 [] [.long sy0, .ref 0] σ (sw_pV p) := by
  unfold S_X11_qJoins_238 at h
  obtain ⟨q1, hq, h⟩ := sw_bnd h
  refine B_X11_qJoins_238  (FC_X11_qPuts (Nat.le_refl _) hq) (Nat.lt_of_lt_of_le (by decide) hd) (fun s hvs => ?_)
  subst hvs
  refine B_X11_qJoins_241  ?_
  exact SC_X11_qJoins_273 hd h
noncomputable def S_X11_qJoins_225 (σ : sw_St) (y2 : Int64) (y4 : Int64) : Option (Unit × sw_St) :=
  if (lg_cmp y4 y2) = 0 then (S_X11_qJoins_238 σ 1) else (S_X11_qJoins_238 σ 0)
theorem SC_X11_qJoins_225 {E : sw_E} {d : Nat} (hd : 1 ≤ d) {p : Unit × sw_St} {σ : sw_St} {y2 : Int64} {y4 : Int64} (h : S_X11_qJoins_225 σ y2 y4 = some p) : sw_W E sw_gM m_X11_qJoins d 225 [(0, .ref 0), (2, .long y2), (4, .long y4)] [] σ (sw_pV p) := by
  unfold S_X11_qJoins_225 at h
  refine B_X11_qJoins_225  (fun hc => ?_) (fun hc => ?_)
  · rw [if_neg hc] at h
    refine B_X11_qJoins_237  ?_
    exact SC_X11_qJoins_238 hd h
  · rw [if_pos hc] at h
    refine B_X11_qJoins_233  ?_
    exact SC_X11_qJoins_238 hd h
noncomputable def S_X11_qJoins_244 (σ : sw_St) (y2 : Int64) (y4 : Int64) : Option (Unit × sw_St) :=
  (F_X11_qPuts σ (y4 * y2)).bind fun q1 => S_X11_qJoins_273 q1.2 
theorem SC_X11_qJoins_244 {E : sw_E} {d : Nat} (hd : 1 ≤ d) {p : Unit × sw_St} {σ : sw_St} {y2 : Int64} {y4 : Int64} (h : S_X11_qJoins_244 σ y2 y4 = some p) : sw_W E sw_gM m_X11_qJoins d 244 [(0, .ref 0), (2, .long y2), (4, .long y4)] [] σ (sw_pV p) := by
  unfold S_X11_qJoins_244 at h
  obtain ⟨q1, hq, h⟩ := sw_bnd h
  refine B_X11_qJoins_244  (FC_X11_qPuts (Nat.le_refl _) hq) (Nat.lt_of_lt_of_le (by decide) hd) (fun s hvs => ?_)
  subst hvs
  refine B_X11_qJoins_252  ?_
  exact SC_X11_qJoins_273 hd h
noncomputable def S_X11_qJoins_270 (σ : sw_St) (sy0 : Int64) : Option (Unit × sw_St) :=
  (F_X11_qPuts σ sy0).bind fun q1 => S_X11_qJoins_273 q1.2 
theorem SC_X11_qJoins_270 {E : sw_E} {d : Nat} (hd : 1 ≤ d) {p : Unit × sw_St} {σ : sw_St} {sy0 : Int64} (h : S_X11_qJoins_270 σ sy0 = some p) : sw_W E sw_gM m_X11_qJoins d 270 [] [.long sy0, .ref 0] σ (sw_pV p) := by
  unfold S_X11_qJoins_270 at h
  obtain ⟨q1, hq, h⟩ := sw_bnd h
  refine B_X11_qJoins_270  (FC_X11_qPuts (Nat.le_refl _) hq) (Nat.lt_of_lt_of_le (by decide) hd) (fun s hvs => ?_)
  subst hvs
  exact SC_X11_qJoins_273 hd h
noncomputable def S_X11_qJoins_255 (σ : sw_St) (y2 : Int64) (y4 : Int64) : Option (Unit × sw_St) :=
  if (lg_cmp (y4 + y2) 0) ≤ 0 then (S_X11_qJoins_270 σ 0) else (S_X11_qJoins_270 σ 1)
theorem SC_X11_qJoins_255 {E : sw_E} {d : Nat} (hd : 1 ≤ d) {p : Unit × sw_St} {σ : sw_St} {y2 : Int64} {y4 : Int64} (h : S_X11_qJoins_255 σ y2 y4 = some p) : sw_W E sw_gM m_X11_qJoins d 255 [(0, .ref 0), (2, .long y2), (4, .long y4)] [] σ (sw_pV p) := by
  unfold S_X11_qJoins_255 at h
  refine B_X11_qJoins_255  (fun hc => ?_) (fun hc => ?_)
  · rw [if_pos hc] at h
    refine B_X11_qJoins_269  ?_
    exact SC_X11_qJoins_270 hd h
  · rw [if_neg hc] at h
    refine B_X11_qJoins_265  ?_
    exact SC_X11_qJoins_270 hd h
noncomputable def F_X11_qJoins (σ : sw_St) (x1 : Int32) : Option (Unit × sw_St) :=
  if sw_inb ((σ.1 0 101) - 1) 1700 = true then (if sw_inb ((σ.1 0 101) - 2) 1700 = true then (if x1 = 1 then (S_X11_qJoins_92 (sw_uI σ 0 101 ((σ.1 0 101) - 2)) (σ.2.1 73 (((σ.1 0 101) - 1).toNatClampNeg)) (σ.2.1 73 (((σ.1 0 101) - 2).toNatClampNeg))) else if x1 = 2 then (S_X11_qJoins_106 (sw_uI σ 0 101 ((σ.1 0 101) - 2)) (σ.2.1 73 (((σ.1 0 101) - 1).toNatClampNeg)) (σ.2.1 73 (((σ.1 0 101) - 2).toNatClampNeg))) else if x1 = 3 then (S_X11_qJoins_120 (sw_uI σ 0 101 ((σ.1 0 101) - 2)) (σ.2.1 73 (((σ.1 0 101) - 1).toNatClampNeg)) (σ.2.1 73 (((σ.1 0 101) - 2).toNatClampNeg))) else if x1 = 4 then (S_X11_qJoins_134 (sw_uI σ 0 101 ((σ.1 0 101) - 2)) (σ.2.1 73 (((σ.1 0 101) - 1).toNatClampNeg)) (σ.2.1 73 (((σ.1 0 101) - 2).toNatClampNeg))) else if x1 = 5 then (S_X11_qJoins_147 (sw_uI σ 0 101 ((σ.1 0 101) - 2)) (σ.2.1 73 (((σ.1 0 101) - 1).toNatClampNeg)) (σ.2.1 73 (((σ.1 0 101) - 2).toNatClampNeg))) else if x1 = 6 then (S_X11_qJoins_167 (sw_uI σ 0 101 ((σ.1 0 101) - 2)) (σ.2.1 73 (((σ.1 0 101) - 1).toNatClampNeg)) (σ.2.1 73 (((σ.1 0 101) - 2).toNatClampNeg))) else if x1 = 7 then (S_X11_qJoins_187 (sw_uI σ 0 101 ((σ.1 0 101) - 2)) (σ.2.1 73 (((σ.1 0 101) - 1).toNatClampNeg)) (σ.2.1 73 (((σ.1 0 101) - 2).toNatClampNeg))) else if x1 = 8 then (S_X11_qJoins_206 (sw_uI σ 0 101 ((σ.1 0 101) - 2)) (σ.2.1 73 (((σ.1 0 101) - 1).toNatClampNeg)) (σ.2.1 73 (((σ.1 0 101) - 2).toNatClampNeg))) else if x1 = 9 then (S_X11_qJoins_225 (sw_uI σ 0 101 ((σ.1 0 101) - 2)) (σ.2.1 73 (((σ.1 0 101) - 1).toNatClampNeg)) (σ.2.1 73 (((σ.1 0 101) - 2).toNatClampNeg))) else if x1 = 10 then (S_X11_qJoins_244 (sw_uI σ 0 101 ((σ.1 0 101) - 2)) (σ.2.1 73 (((σ.1 0 101) - 1).toNatClampNeg)) (σ.2.1 73 (((σ.1 0 101) - 2).toNatClampNeg))) else (S_X11_qJoins_255 (sw_uI σ 0 101 ((σ.1 0 101) - 2)) (σ.2.1 73 (((σ.1 0 101) - 1).toNatClampNeg)) (σ.2.1 73 (((σ.1 0 101) - 2).toNatClampNeg)))) else none) else none
theorem FC_X11_qJoins {E : sw_E} {d : Nat} (hd : 1 ≤ d) {p : Unit × sw_St} {σ : sw_St} {x1 : Int32} (h : F_X11_qJoins σ x1 = some p) : sw_KV E sw_gM m_X11_qJoins d [.ref 0, .int x1] σ (fun s => s = p.2) := by
  unfold F_X11_qJoins at h
  refine sw_K.of (by decide +kernel) rfl (Nat.le_of_ble_eq_true rfl) ?_
  show sw_W E sw_gM m_X11_qJoins d 0 [(0, .ref 0), (1, .int x1)] [] σ (sw_pV p)
  obtain ⟨o1, h⟩ := sw_ifs h
  obtain ⟨o2, h⟩ := sw_ifs h
  refine B_X11_qJoins_0 (sw_inb_sp o1) (sw_inb_sp o2) (fun hc => ?_) (fun hc => ?_) (fun hc => ?_) (fun hc => ?_) (fun hc => ?_) (fun hc => ?_) (fun hc => ?_) (fun hc => ?_) (fun hc => ?_) (fun hc => ?_) (fun n0 n1 n2 n3 n4 n5 n6 n7 n8 n9 => ?_)
  · rw [if_pos hc] at h
    exact SC_X11_qJoins_92 hd h
  · rw [if_neg (fun z => absurd (hc.symm.trans z) (by decide)), if_pos hc] at h
    exact SC_X11_qJoins_106 hd h
  · rw [if_neg (fun z => absurd (hc.symm.trans z) (by decide)), if_neg (fun z => absurd (hc.symm.trans z) (by decide)), if_pos hc] at h
    exact SC_X11_qJoins_120 hd h
  · rw [if_neg (fun z => absurd (hc.symm.trans z) (by decide)), if_neg (fun z => absurd (hc.symm.trans z) (by decide)), if_neg (fun z => absurd (hc.symm.trans z) (by decide)), if_pos hc] at h
    exact SC_X11_qJoins_134 hd h
  · rw [if_neg (fun z => absurd (hc.symm.trans z) (by decide)), if_neg (fun z => absurd (hc.symm.trans z) (by decide)), if_neg (fun z => absurd (hc.symm.trans z) (by decide)), if_neg (fun z => absurd (hc.symm.trans z) (by decide)), if_pos hc] at h
    exact SC_X11_qJoins_147 hd h
  · rw [if_neg (fun z => absurd (hc.symm.trans z) (by decide)), if_neg (fun z => absurd (hc.symm.trans z) (by decide)), if_neg (fun z => absurd (hc.symm.trans z) (by decide)), if_neg (fun z => absurd (hc.symm.trans z) (by decide)), if_neg (fun z => absurd (hc.symm.trans z) (by decide)), if_pos hc] at h
    exact SC_X11_qJoins_167 hd h
  · rw [if_neg (fun z => absurd (hc.symm.trans z) (by decide)), if_neg (fun z => absurd (hc.symm.trans z) (by decide)), if_neg (fun z => absurd (hc.symm.trans z) (by decide)), if_neg (fun z => absurd (hc.symm.trans z) (by decide)), if_neg (fun z => absurd (hc.symm.trans z) (by decide)), if_neg (fun z => absurd (hc.symm.trans z) (by decide)), if_pos hc] at h
    exact SC_X11_qJoins_187 hd h
  · rw [if_neg (fun z => absurd (hc.symm.trans z) (by decide)), if_neg (fun z => absurd (hc.symm.trans z) (by decide)), if_neg (fun z => absurd (hc.symm.trans z) (by decide)), if_neg (fun z => absurd (hc.symm.trans z) (by decide)), if_neg (fun z => absurd (hc.symm.trans z) (by decide)), if_neg (fun z => absurd (hc.symm.trans z) (by decide)), if_neg (fun z => absurd (hc.symm.trans z) (by decide)), if_pos hc] at h
    exact SC_X11_qJoins_206 hd h
  · rw [if_neg (fun z => absurd (hc.symm.trans z) (by decide)), if_neg (fun z => absurd (hc.symm.trans z) (by decide)), if_neg (fun z => absurd (hc.symm.trans z) (by decide)), if_neg (fun z => absurd (hc.symm.trans z) (by decide)), if_neg (fun z => absurd (hc.symm.trans z) (by decide)), if_neg (fun z => absurd (hc.symm.trans z) (by decide)), if_neg (fun z => absurd (hc.symm.trans z) (by decide)), if_neg (fun z => absurd (hc.symm.trans z) (by decide)), if_pos hc] at h
    exact SC_X11_qJoins_225 hd h
  · rw [if_neg (fun z => absurd (hc.symm.trans z) (by decide)), if_neg (fun z => absurd (hc.symm.trans z) (by decide)), if_neg (fun z => absurd (hc.symm.trans z) (by decide)), if_neg (fun z => absurd (hc.symm.trans z) (by decide)), if_neg (fun z => absurd (hc.symm.trans z) (by decide)), if_neg (fun z => absurd (hc.symm.trans z) (by decide)), if_neg (fun z => absurd (hc.symm.trans z) (by decide)), if_neg (fun z => absurd (hc.symm.trans z) (by decide)), if_neg (fun z => absurd (hc.symm.trans z) (by decide)), if_pos hc] at h
    exact SC_X11_qJoins_244 hd h
  · rw [if_neg n0, if_neg n1, if_neg n2, if_neg n3, if_neg n4, if_neg n5, if_neg n6, if_neg n7, if_neg n8, if_neg n9] at h
    exact SC_X11_qJoins_255 hd h
/-! StrayWoolModel.qPartOf(II)J -/
noncomputable def F_X11_qPartOf (σ : sw_St) (x1 : Int32) (x2 : Int32) : Option (Int64 × sw_St) :=
  if x1 = 0 then ((F_X11_curiousOf σ (σ.1 0 54)).bind fun q1 => some (q1.1.toInt64, q1.2)) else if x1 = 1 then ((F_X11_woolOf σ (σ.1 0 54)).bind fun q2 => some (q2.1.toInt64, q2.2)) else if x1 = 2 then (some ((σ.1 37 0).toInt64, σ)) else if x1 = 3 then (if sw_inb (8 + (σ.1 0 55)) 16 = true then (some ((σ.1 30 ((8 + (σ.1 0 55)).toNatClampNeg)).toInt64, σ)) else none) else if x1 = 4 then ((F_X11_seenOf σ (σ.1 0 54) (σ.1 0 55)).bind fun q4 => some (q4.1.toInt64, q4.2)) else if x1 = 5 then (some ((σ.1 0 56).toInt64, σ)) else if x1 = 6 then ((F_X11_crimpOf σ (σ.1 0 54)).bind fun q5 => some (q5.1.toInt64, q5.2)) else if x1 = 7 then ((F_X11_ledOf σ (σ.1 0 54)).bind fun q6 => some (q6.1.toInt64, q6.2)) else if x1 = 8 then (some ((σ.1 0 54).toInt64, σ)) else ((F_X11_fieldOf σ (σ.1 0 54)).bind fun q7 => some (q7.1.toInt64, q7.2))
theorem FC_X11_qPartOf {E : sw_E} {d : Nat} (hd : 1 ≤ d) {p : Int64 × sw_St} {σ : sw_St} {x1 : Int32} {x2 : Int32} (h : F_X11_qPartOf σ x1 x2 = some p) : sw_KL E sw_gM m_X11_qPartOf d [.ref 0, .int x1, .int x2] σ (fun v s => v = p.1 ∧ s = p.2) := by
  unfold F_X11_qPartOf at h
  refine sw_K.of (by decide +kernel) rfl (Nat.le_of_ble_eq_true rfl) ?_
  show sw_W E sw_gM m_X11_qPartOf d 0 [(0, .ref 0), (1, .int x1), (2, .int x2)] [] σ (sw_pL p)
  refine B_X11_qPartOf_0  (fun hc => ?_) (fun hc => ?_) (fun hc => ?_) (fun hc => ?_) (fun hc => ?_) (fun hc => ?_) (fun hc => ?_) (fun hc => ?_) (fun hc => ?_) (fun n0 n1 n2 n3 n4 n5 n6 n7 n8 => ?_)
  · rw [if_pos hc] at h
    obtain ⟨q1, hq, h⟩ := sw_bnd h
    refine B_X11_qPartOf_52  (FC_X11_curiousOf (Nat.le_refl _) hq) (Nat.lt_of_lt_of_le (by decide) hd) (fun v s hvs => ?_)
    obtain ⟨hv1, hv2⟩ := hvs; subst hv1; subst hv2
    cases h
    exact B_X11_qPartOf_60  ⟨_, rfl, rfl, rfl⟩
  · rw [if_neg (fun z => absurd (hc.symm.trans z) (by decide)), if_pos hc] at h
    obtain ⟨q2, hq, h⟩ := sw_bnd h
    refine B_X11_qPartOf_62  (FC_X11_woolOf (Nat.le_refl _) hq) (Nat.lt_of_lt_of_le (by decide) hd) (fun v s hvs => ?_)
    obtain ⟨hv1, hv2⟩ := hvs; subst hv1; subst hv2
    cases h
    exact B_X11_qPartOf_70  ⟨_, rfl, rfl, rfl⟩
  · rw [if_neg (fun z => absurd (hc.symm.trans z) (by decide)), if_neg (fun z => absurd (hc.symm.trans z) (by decide)), if_pos hc] at h
    cases h
    exact B_X11_qPartOf_72  ⟨_, rfl, rfl, rfl⟩
  · rw [if_neg (fun z => absurd (hc.symm.trans z) (by decide)), if_neg (fun z => absurd (hc.symm.trans z) (by decide)), if_neg (fun z => absurd (hc.symm.trans z) (by decide)), if_pos hc] at h
    obtain ⟨o3, h⟩ := sw_ifs h
    cases h
    exact B_X11_qPartOf_80 (sw_inb_sp o3) ⟨_, rfl, rfl, rfl⟩
  · rw [if_neg (fun z => absurd (hc.symm.trans z) (by decide)), if_neg (fun z => absurd (hc.symm.trans z) (by decide)), if_neg (fun z => absurd (hc.symm.trans z) (by decide)), if_neg (fun z => absurd (hc.symm.trans z) (by decide)), if_pos hc] at h
    obtain ⟨q4, hq, h⟩ := sw_bnd h
    refine B_X11_qPartOf_94  (FC_X11_seenOf (Nat.le_refl _) hq) (Nat.lt_of_lt_of_le (by decide) hd) (fun v s hvs => ?_)
    obtain ⟨hv1, hv2⟩ := hvs; subst hv1; subst hv2
    cases h
    exact B_X11_qPartOf_106  ⟨_, rfl, rfl, rfl⟩
  · rw [if_neg (fun z => absurd (hc.symm.trans z) (by decide)), if_neg (fun z => absurd (hc.symm.trans z) (by decide)), if_neg (fun z => absurd (hc.symm.trans z) (by decide)), if_neg (fun z => absurd (hc.symm.trans z) (by decide)), if_neg (fun z => absurd (hc.symm.trans z) (by decide)), if_pos hc] at h
    cases h
    exact B_X11_qPartOf_108  ⟨_, rfl, rfl, rfl⟩
  · rw [if_neg (fun z => absurd (hc.symm.trans z) (by decide)), if_neg (fun z => absurd (hc.symm.trans z) (by decide)), if_neg (fun z => absurd (hc.symm.trans z) (by decide)), if_neg (fun z => absurd (hc.symm.trans z) (by decide)), if_neg (fun z => absurd (hc.symm.trans z) (by decide)), if_neg (fun z => absurd (hc.symm.trans z) (by decide)), if_pos hc] at h
    obtain ⟨q5, hq, h⟩ := sw_bnd h
    refine B_X11_qPartOf_114  (FC_X11_crimpOf (Nat.le_refl _) hq) (Nat.lt_of_lt_of_le (by decide) hd) (fun v s hvs => ?_)
    obtain ⟨hv1, hv2⟩ := hvs; subst hv1; subst hv2
    cases h
    exact B_X11_qPartOf_122  ⟨_, rfl, rfl, rfl⟩
  · rw [if_neg (fun z => absurd (hc.symm.trans z) (by decide)), if_neg (fun z => absurd (hc.symm.trans z) (by decide)), if_neg (fun z => absurd (hc.symm.trans z) (by decide)), if_neg (fun z => absurd (hc.symm.trans z) (by decide)), if_neg (fun z => absurd (hc.symm.trans z) (by decide)), if_neg (fun z => absurd (hc.symm.trans z) (by decide)), if_neg (fun z => absurd (hc.symm.trans z) (by decide)), if_pos hc] at h
    obtain ⟨q6, hq, h⟩ := sw_bnd h
    refine B_X11_qPartOf_124  (FC_X11_ledOf (Nat.le_refl _) hq) (Nat.lt_of_lt_of_le (by decide) hd) (fun v s hvs => ?_)
    obtain ⟨hv1, hv2⟩ := hvs; subst hv1; subst hv2
    cases h
    exact B_X11_qPartOf_132  ⟨_, rfl, rfl, rfl⟩
  · rw [if_neg (fun z => absurd (hc.symm.trans z) (by decide)), if_neg (fun z => absurd (hc.symm.trans z) (by decide)), if_neg (fun z => absurd (hc.symm.trans z) (by decide)), if_neg (fun z => absurd (hc.symm.trans z) (by decide)), if_neg (fun z => absurd (hc.symm.trans z) (by decide)), if_neg (fun z => absurd (hc.symm.trans z) (by decide)), if_neg (fun z => absurd (hc.symm.trans z) (by decide)), if_neg (fun z => absurd (hc.symm.trans z) (by decide)), if_pos hc] at h
    cases h
    exact B_X11_qPartOf_134  ⟨_, rfl, rfl, rfl⟩
  · rw [if_neg n0, if_neg n1, if_neg n2, if_neg n3, if_neg n4, if_neg n5, if_neg n6, if_neg n7, if_neg n8] at h
    obtain ⟨q7, hq, h⟩ := sw_bnd h
    refine B_X11_qPartOf_140  (FC_X11_fieldOf (Nat.le_refl _) hq) (Nat.lt_of_lt_of_le (by decide) hd) (fun v s hvs => ?_)
    obtain ⟨hv1, hv2⟩ := hvs; subst hv1; subst hv2
    cases h
    exact B_X11_qPartOf_148  ⟨_, rfl, rfl, rfl⟩
/-! StrayWoolModel.qOf(IJI)J -/
noncomputable def S_X11_qOf_41 (σ : sw_St) (sy0 : Int64) : Option (Int64 × sw_St) :=
  some (sy0, σ)
theorem SC_X11_qOf_41 {E : sw_E} {d : Nat} (hd : 2 ≤ d) {p : Int64 × sw_St} {σ : sw_St} {sy0 : Int64} (h : S_X11_qOf_41 σ sy0 = some p) : sw_W E sw_gM m_X11_qOf d 41 [] [.long sy0] σ (sw_pL p) := by
  unfold S_X11_qOf_41 at h
  cases h
  exact B_X11_qOf_41  ⟨_, rfl, rfl, rfl⟩
noncomputable def S_X11_qOf_67 (σ : sw_St) (sy0 : Int64) : Option (Int64 × sw_St) :=
  some (sy0, σ)
theorem SC_X11_qOf_67 {E : sw_E} {d : Nat} (hd : 2 ≤ d) {p : Int64 × sw_St} {σ : sw_St} {sy0 : Int64} (h : S_X11_qOf_67 σ sy0 = some p) : sw_W E sw_gM m_X11_qOf d 67 [] [.long sy0] σ (sw_pL p) := by
  unfold S_X11_qOf_67 at h
  cases h
  exact B_X11_qOf_67  ⟨_, rfl, rfl, rfl⟩
noncomputable def F_X11_qOf (σ : sw_St) (x1 : Int32) (y2 : Int64) (x4 : Int32) : Option (Int64 × sw_St) :=
  if x1 = 0 then ((F_X11_isField σ y2).bind fun q1 => if q1.1 = 0 then (S_X11_qOf_41 q1.2 0) else ((F_X11_seenOf q1.2 x4 y2.toInt32).bind fun q2 => S_X11_qOf_41 q2.2 q2.1.toInt64)) else ((F_X11_isGap σ y2).bind fun q3 => if q3.1 = 0 then (S_X11_qOf_67 q3.2 0) else (if sw_inb ((10 * x4) + y2.toInt32) 60 = true then (S_X11_qOf_67 q3.2 (q3.2.2.1 40 (((10 * x4) + y2.toInt32).toNatClampNeg))) else none))
theorem FC_X11_qOf {E : sw_E} {d : Nat} (hd : 2 ≤ d) {p : Int64 × sw_St} {σ : sw_St} {x1 : Int32} {y2 : Int64} {x4 : Int32} (h : F_X11_qOf σ x1 y2 x4 = some p) : sw_KL E sw_gM m_X11_qOf d [.ref 0, .int x1, .long y2, .int x4] σ (fun v s => v = p.1 ∧ s = p.2) := by
  unfold F_X11_qOf at h
  refine sw_K.of (by decide +kernel) rfl (Nat.le_of_ble_eq_true rfl) ?_
  show sw_W E sw_gM m_X11_qOf d 0 [(0, .ref 0), (1, .int x1), (2, .long y2), (4, .int x4)] [] σ (sw_pL p)
  refine B_X11_qOf_0  (fun hc => ?_) (fun n0 => ?_)
  · rw [if_pos hc] at h
    obtain ⟨q1, hq, h⟩ := sw_bnd h
    refine B_X11_qOf_20  (FC_X11_isField (Nat.le_refl _) hq) (Nat.lt_of_lt_of_le (by decide) hd) (fun v s hvs => ?_)
    obtain ⟨hv1, hv2⟩ := hvs; subst hv1; subst hv2
    refine B_X11_qOf_25  (fun hc => ?_) (fun hc => ?_)
    · rw [if_pos hc] at h
      refine B_X11_qOf_40  ?_
      exact SC_X11_qOf_41 hd h
    · rw [if_neg hc] at h
      obtain ⟨q2, hq, h⟩ := sw_bnd h
      refine B_X11_qOf_28  (FC_X11_seenOf (Nat.le_refl _) hq) (Nat.lt_of_lt_of_le (by decide) hd) (fun v s hvs => ?_)
      obtain ⟨hv1, hv2⟩ := hvs; subst hv1; subst hv2
      refine B_X11_qOf_36  ?_
      exact SC_X11_qOf_41 hd h
  · rw [if_neg n0] at h
    obtain ⟨q3, hq, h⟩ := sw_bnd h
    refine B_X11_qOf_42  (FC_X11_isGap (Nat.le_refl _) hq) (Nat.lt_of_lt_of_le (by decide) hd) (fun v s hvs => ?_)
    obtain ⟨hv1, hv2⟩ := hvs; subst hv1; subst hv2
    refine B_X11_qOf_47  (fun hc => ?_) (fun hc => ?_)
    · rw [if_pos hc] at h
      refine B_X11_qOf_66  ?_
      exact SC_X11_qOf_67 hd h
    · rw [if_neg hc] at h
      obtain ⟨o4, h⟩ := sw_ifs h
      refine B_X11_qOf_50 (sw_inb_sp o4) ?_
      exact SC_X11_qOf_67 hd h
/-! StrayWoolModel.qTold(I)J -/
noncomputable def S_X11_qTold_162 (c7 : sw_St → Int32 → Int32 → Option (Int64 × sw_St)) (σ : sw_St) (x1 : Int32) (x2 : Int32) : Option (Int64 × sw_St) :=
  c7 σ x1 (x2 + 1)
theorem SC_X11_qTold_162 {E : sw_E} {d : Nat} (hd : 3 ≤ d) {p : Int64 × sw_St} {c7 : sw_St → Int32 → Int32 → Option (Int64 × sw_St)} (h7 : ∀ (σ : sw_St) (x1 : Int32) (x2 : Int32), c7 σ x1 x2 = some p → sw_W E sw_gM m_X11_qTold d 7 [(0, .ref 0), (1, .int x1), (2, .int x2)] [] σ (sw_pL p)) {σ : sw_St} {x1 : Int32} {x2 : Int32} (h : S_X11_qTold_162 c7 σ x1 x2 = some p) : sw_W E sw_gM m_X11_qTold d 162 [(0, .ref 0), (1, .int x1), (2, .int x2)] [] σ (sw_pL p) := by
  unfold S_X11_qTold_162 at h
  refine B_X11_qTold_162  ?_
  exact h7 _ _ _ h
noncomputable def S_X11_qTold_7 (c7 : sw_St → Int32 → Int32 → Option (Int64 × sw_St)) (σ : sw_St) (x1 : Int32) (x2 : Int32) : Option (Int64 × sw_St) :=
  if (σ.1 0 95) ≤ x2 then (some (σ.2.1 73 0, σ)) else (if sw_inb x2 1700 = true then (if (σ.1 71 x2.toNatClampNeg) < 1000 then (if (σ.1 71 x2.toNatClampNeg) < 60 then (if (σ.1 71 x2.toNatClampNeg) < 40 then (if (σ.1 71 x2.toNatClampNeg) = 13 then ((F_X11_qPuts σ 1).bind fun q5 => S_X11_qTold_162 c7 q5.2 x1 x2) else (if (σ.1 71 x2.toNatClampNeg) = 12 then (if sw_inb ((σ.1 0 101) - 1) 1700 = true then (if sw_inb ((σ.1 0 101) - 1) 1700 = true then (S_X11_qTold_162 c7 (sw_uL σ 73 (((σ.1 0 101) - 1).toNatClampNeg) (1 - (σ.2.1 73 (((σ.1 0 101) - 1).toNatClampNeg)))) x1 x2) else none) else none) else ((F_X11_qJoins σ (σ.1 71 x2.toNatClampNeg)).bind fun q2 => S_X11_qTold_162 c7 q2.2 x1 x2))) else ((F_X11_qPartOf σ ((σ.1 71 x2.toNatClampNeg) - 40) x1).bind fun q6 => (F_X11_qClip q6.2 q6.1).bind fun q7 => (F_X11_qPuts q7.2 q7.1).bind fun q8 => S_X11_qTold_162 c7 q8.2 x1 x2)) else (if sw_inb ((σ.1 0 101) - 1) 1700 = true then ((F_X11_qOf σ ((σ.1 71 x2.toNatClampNeg) - 60) (σ.2.1 73 (((σ.1 0 101) - 1).toNatClampNeg)) x1).bind fun q10 => (F_X11_qClip q10.2 q10.1).bind fun q11 => if sw_inb ((σ.1 0 101) - 1) 1700 = true then (S_X11_qTold_162 c7 (sw_uL q11.2 73 ((σ.1 0 101) - 1).toNatClampNeg q11.1) x1 x2) else none) else none)) else ((F_X11_qPuts σ (((σ.1 71 x2.toNatClampNeg) - 1000).toInt64)).bind fun q13 => S_X11_qTold_162 c7 q13.2 x1 x2)) else none)
theorem SC_X11_qTold_7 {E : sw_E} {d : Nat} (hd : 3 ≤ d) {p : Int64 × sw_St} {c7 : sw_St → Int32 → Int32 → Option (Int64 × sw_St)} (h7 : ∀ (σ : sw_St) (x1 : Int32) (x2 : Int32), c7 σ x1 x2 = some p → sw_W E sw_gM m_X11_qTold d 7 [(0, .ref 0), (1, .int x1), (2, .int x2)] [] σ (sw_pL p)) {σ : sw_St} {x1 : Int32} {x2 : Int32} (h : S_X11_qTold_7 c7 σ x1 x2 = some p) : sw_W E sw_gM m_X11_qTold d 7 [(0, .ref 0), (1, .int x1), (2, .int x2)] [] σ (sw_pL p) := by
  unfold S_X11_qTold_7 at h
  refine B_X11_qTold_7  (fun hc => ?_) (fun hc => ?_)
  · rw [if_pos hc] at h
    cases h
    exact B_X11_qTold_168  ⟨_, rfl, rfl, rfl⟩
  · rw [if_neg hc] at h
    obtain ⟨o1, h⟩ := sw_ifs h
    refine B_X11_qTold_15 (sw_inb_sp o1) (fun hc => ?_) (fun hc => ?_)
    · rw [if_pos hc] at h
      refine B_X11_qTold_42  (fun hc => ?_) (fun hc => ?_)
      · rw [if_pos hc] at h
        refine B_X11_qTold_85  (fun hc => ?_) (fun hc => ?_)
        · rw [if_pos hc] at h
          refine B_X11_qTold_110  (fun hc => ?_) (fun hc => ?_)
          · rw [if_neg hc] at h
            refine B_X11_qTold_124  (fun hc => ?_) (fun hc => ?_)
            · rw [if_neg hc] at h
              obtain ⟨q2, hq, h⟩ := sw_bnd h
              refine B_X11_qTold_157  (FC_X11_qJoins (Nat.le_refl _) hq) (Nat.lt_of_lt_of_le (by decide) hd) (fun s hvs => ?_)
              subst hvs
              exact SC_X11_qTold_162 hd h7 h
            · rw [if_pos hc] at h
              obtain ⟨o3, h⟩ := sw_ifs h
              obtain ⟨o4, h⟩ := sw_ifs h
              refine B_X11_qTold_130 (sw_inb_sp o3) (sw_inb_sp o4) ?_
              exact SC_X11_qTold_162 hd h7 h
          · rw [if_pos hc] at h
            obtain ⟨q5, hq, h⟩ := sw_bnd h
            refine B_X11_qTold_116  (FC_X11_qPuts (Nat.le_refl _) hq) (Nat.lt_of_lt_of_le (by decide) hd) (fun s hvs => ?_)
            subst hvs
            refine B_X11_qTold_121  ?_
            exact SC_X11_qTold_162 hd h7 h
        · rw [if_neg hc] at h
          obtain ⟨q6, hq, h⟩ := sw_bnd h
          refine B_X11_qTold_91  (FC_X11_qPartOf (Nat.le_refl _) hq) (Nat.lt_of_lt_of_le (by decide) hd) (fun v s hvs => ?_)
          obtain ⟨hv1, hv2⟩ := hvs; subst hv1; subst hv2
          obtain ⟨q7, hq, h⟩ := sw_bnd h
          refine B_X11_qTold_101  (FC_X11_qClip (Nat.le_refl _) hq) (Nat.lt_of_lt_of_le (by decide) hd) (fun v s hvs => ?_)
          obtain ⟨hv1, hv2⟩ := hvs; subst hv1; subst hv2
          obtain ⟨q8, hq, h⟩ := sw_bnd h
          refine B_X11_qTold_104  (FC_X11_qPuts (Nat.le_refl _) hq) (Nat.lt_of_lt_of_le (by decide) hd) (fun s hvs => ?_)
          subst hvs
          refine B_X11_qTold_107  ?_
          exact SC_X11_qTold_162 hd h7 h
      · rw [if_neg hc] at h
        obtain ⟨o9, h⟩ := sw_ifs h
        obtain ⟨q10, hq, h⟩ := sw_bnd h
        refine B_X11_qTold_48 (sw_inb_sp o9) (FC_X11_qOf (Nat.le_refl _) hq) (Nat.lt_of_lt_of_le (by decide) hd) (fun v s hvs => ?_)
        obtain ⟨hv1, hv2⟩ := hvs; subst hv1; subst hv2
        obtain ⟨q11, hq, h⟩ := sw_bnd h
        refine B_X11_qTold_78  (FC_X11_qClip (Nat.le_refl _) hq) (Nat.lt_of_lt_of_le (by decide) hd) (fun v s hvs => ?_)
        obtain ⟨hv1, hv2⟩ := hvs; subst hv1; subst hv2
        obtain ⟨o12, h⟩ := sw_ifs h
        refine B_X11_qTold_81 (sw_inb_sp o12) ?_
        exact SC_X11_qTold_162 hd h7 h
    · rw [if_neg hc] at h
      obtain ⟨q13, hq, h⟩ := sw_bnd h
      refine B_X11_qTold_29  (FC_X11_qPuts (Nat.le_refl _) hq) (Nat.lt_of_lt_of_le (by decide) hd) (fun s hvs => ?_)
      subst hvs
      refine B_X11_qTold_39  ?_
      exact SC_X11_qTold_162 hd h7 h
noncomputable def L_X11_qTold_7 : Nat → sw_St → Int32 → Int32 → Option (Int64 × sw_St)
  | 0, _, _, _ => none
  | k + 1, σ, x1, x2 => S_X11_qTold_7 (fun σ x1 x2 => L_X11_qTold_7 k σ x1 x2) σ x1 x2
theorem LC_X11_qTold_7 {E : sw_E} {d : Nat} (hd : 3 ≤ d) {p : Int64 × sw_St} : ∀ (k : Nat) (σ : sw_St) (x1 : Int32) (x2 : Int32), L_X11_qTold_7 k σ x1 x2 = some p → sw_W E sw_gM m_X11_qTold d 7 [(0, .ref 0), (1, .int x1), (2, .int x2)] [] σ (sw_pL p) := by
  intro k
  induction k with
  | zero => intro σ x1 x2 h; cases h
  | succ k ih => intro σ x1 x2 h; exact SC_X11_qTold_7 hd ih h
noncomputable def F_X11_qTold (σ : sw_St) (x1 : Int32) : Option (Int64 × sw_St) :=
  L_X11_qTold_7 sw_fuel (sw_uI σ 0 101 0) x1 0
theorem FC_X11_qTold {E : sw_E} {d : Nat} (hd : 3 ≤ d) {p : Int64 × sw_St} {σ : sw_St} {x1 : Int32} (h : F_X11_qTold σ x1 = some p) : sw_KL E sw_gM m_X11_qTold d [.ref 0, .int x1] σ (fun v s => v = p.1 ∧ s = p.2) := by
  unfold F_X11_qTold at h
  refine sw_K.of (by decide +kernel) rfl (Nat.le_of_ble_eq_true rfl) ?_
  show sw_W E sw_gM m_X11_qTold d 0 [(0, .ref 0), (1, .int x1)] [] σ (sw_pL p)
  refine B_X11_qTold_0  ?_
  exact LC_X11_qTold_7 hd _ _ _ _ h
/-! StrayWoolModel.qKind()I -/
noncomputable def S_X11_qKind_90 (σ : sw_St) (x1 : Int32) : Option (Int32 × sw_St) :=
  some (x1, σ)
theorem SC_X11_qKind_90 {E : sw_E} {d : Nat} (hd : 4 ≤ d) {p : Int32 × sw_St} {σ : sw_St} {x1 : Int32} (h : S_X11_qKind_90 σ x1 = some p) : sw_W E sw_gM m_X11_qKind d 90 [(1, .int x1)] [] σ (sw_pI p) := by
  unfold S_X11_qKind_90 at h
  cases h
  exact B_X11_qKind_90  ⟨_, rfl, rfl, rfl⟩
noncomputable def S_X11_qKind_76 (σ : sw_St) (sx0 : Int32) : Option (Int32 × sw_St) :=
  if sx0 = 5 then ((F_X11_asks σ 52).bind fun q1 => S_X11_qKind_90 q1.2 sx0) else (S_X11_qKind_90 σ sx0)
theorem SC_X11_qKind_76 {E : sw_E} {d : Nat} (hd : 4 ≤ d) {p : Int32 × sw_St} {σ : sw_St} {sx0 : Int32} (h : S_X11_qKind_76 σ sx0 = some p) : sw_W E sw_gM m_X11_qKind d 76 [(0, .ref 0)] [.int sx0] σ (sw_pI p) := by
  unfold S_X11_qKind_76 at h
  refine B_X11_qKind_76  (fun hc => ?_) (fun hc => ?_)
  · rw [if_neg hc] at h
    exact SC_X11_qKind_90 hd h
  · rw [if_pos hc] at h
    obtain ⟨q1, hq, h⟩ := sw_bnd h
    refine B_X11_qKind_82  (FC_X11_asks (Nat.le_refl _) hq) (Nat.lt_of_lt_of_le (by decide) hd) (fun s hvs => ?_)
    subst hvs
    exact SC_X11_qKind_90 hd h
noncomputable def F_X11_qKind (σ : sw_St) : Option (Int32 × sw_St) :=
  (F_X11_takes σ 47).bind fun q1 => if q1.1 = 0 then ((F_X11_takes q1.2 48).bind fun q2 => if q2.1 = 0 then ((F_X11_takes q2.2 49).bind fun q3 => if q3.1 = 0 then ((F_X11_takes q3.2 50).bind fun q4 => if q4.1 = 0 then ((F_X11_takes q4.2 51).bind fun q5 => if q5.1 = 0 then (S_X11_qKind_76 q5.2 5) else (S_X11_qKind_76 q5.2 4)) else (S_X11_qKind_76 q4.2 3)) else (S_X11_qKind_76 q3.2 2)) else (S_X11_qKind_76 q2.2 1)) else (S_X11_qKind_76 q1.2 0)
theorem FC_X11_qKind {E : sw_E} {d : Nat} (hd : 4 ≤ d) {p : Int32 × sw_St} {σ : sw_St} (h : F_X11_qKind σ  = some p) : sw_KI E sw_gM m_X11_qKind d [.ref 0] σ (fun v s => v = p.1 ∧ s = p.2) := by
  unfold F_X11_qKind at h
  refine sw_K.of (by decide +kernel) rfl (Nat.le_of_ble_eq_true rfl) ?_
  show sw_W E sw_gM m_X11_qKind d 0 [(0, .ref 0)] [] σ (sw_pI p)
  obtain ⟨q1, hq, h⟩ := sw_bnd h
  refine B_X11_qKind_0  (FC_X11_takes (Nat.le_refl _) hq) (Nat.lt_of_lt_of_le (by decide) hd) (fun v s hvs => ?_)
  obtain ⟨hv1, hv2⟩ := hvs; subst hv1; subst hv2
  refine B_X11_qKind_8  (fun hc => ?_) (fun hc => ?_)
  · rw [if_pos hc] at h
    obtain ⟨q2, hq, h⟩ := sw_bnd h
    refine B_X11_qKind_15  (FC_X11_takes (Nat.le_refl _) hq) (Nat.lt_of_lt_of_le (by decide) hd) (fun v s hvs => ?_)
    obtain ⟨hv1, hv2⟩ := hvs; subst hv1; subst hv2
    refine B_X11_qKind_23  (fun hc => ?_) (fun hc => ?_)
    · rw [if_pos hc] at h
      obtain ⟨q3, hq, h⟩ := sw_bnd h
      refine B_X11_qKind_30  (FC_X11_takes (Nat.le_refl _) hq) (Nat.lt_of_lt_of_le (by decide) hd) (fun v s hvs => ?_)
      obtain ⟨hv1, hv2⟩ := hvs; subst hv1; subst hv2
      refine B_X11_qKind_38  (fun hc => ?_) (fun hc => ?_)
      · rw [if_pos hc] at h
        obtain ⟨q4, hq, h⟩ := sw_bnd h
        refine B_X11_qKind_45  (FC_X11_takes (Nat.le_refl _) hq) (Nat.lt_of_lt_of_le (by decide) hd) (fun v s hvs => ?_)
        obtain ⟨hv1, hv2⟩ := hvs; subst hv1; subst hv2
        refine B_X11_qKind_53  (fun hc => ?_) (fun hc => ?_)
        · rw [if_pos hc] at h
          obtain ⟨q5, hq, h⟩ := sw_bnd h
          refine B_X11_qKind_60  (FC_X11_takes (Nat.le_refl _) hq) (Nat.lt_of_lt_of_le (by decide) hd) (fun v s hvs => ?_)
          obtain ⟨hv1, hv2⟩ := hvs; subst hv1; subst hv2
          refine B_X11_qKind_68  (fun hc => ?_) (fun hc => ?_)
          · rw [if_pos hc] at h
            refine B_X11_qKind_75  ?_
            exact SC_X11_qKind_76 hd h
          · rw [if_neg hc] at h
            refine B_X11_qKind_71  ?_
            exact SC_X11_qKind_76 hd h
        · rw [if_neg hc] at h
          refine B_X11_qKind_56  ?_
          exact SC_X11_qKind_76 hd h
      · rw [if_neg hc] at h
        refine B_X11_qKind_41  ?_
        exact SC_X11_qKind_76 hd h
    · rw [if_neg hc] at h
      refine B_X11_qKind_26  ?_
      exact SC_X11_qKind_76 hd h
  · rw [if_neg hc] at h
    refine B_X11_qKind_11  ?_
    exact SC_X11_qKind_76 hd h
/-! StrayWoolModel.qTakes(IJI)V -/
noncomputable def S_X11_qTakes_133 (σ : sw_St) : Option (Unit × sw_St) :=
  some ((), (sw_uI σ 0 103 0))
theorem SC_X11_qTakes_133 {E : sw_E} {d : Nat} (hd : 0 ≤ d) {p : Unit × sw_St} {σ : sw_St} (h : S_X11_qTakes_133 σ  = some p) : sw_W E sw_gM m_X11_qTakes d 133 [(0, .ref 0)] [] σ (sw_pV p) := by
  unfold S_X11_qTakes_133 at h
  cases h
  exact B_X11_qTakes_133  ⟨rfl, rfl⟩
noncomputable def S_X11_qTakes_128 (σ : sw_St) (y2 : Int64) : Option (Unit × sw_St) :=
  S_X11_qTakes_133 (sw_uL σ 0 102 y2) 
theorem SC_X11_qTakes_128 {E : sw_E} {d : Nat} (hd : 0 ≤ d) {p : Unit × sw_St} {σ : sw_St} {y2 : Int64} (h : S_X11_qTakes_128 σ y2 = some p) : sw_W E sw_gM m_X11_qTakes d 128 [(0, .ref 0), (2, .long y2)] [] σ (sw_pV p) := by
  unfold S_X11_qTakes_128 at h
  refine B_X11_qTakes_128  ?_
  exact SC_X11_qTakes_133 hd h
noncomputable def S_X11_qTakes_90 (σ : sw_St) (x1 : Int32) (y2 : Int64) : Option (Unit × sw_St) :=
  if x1 ≤ 3 then (S_X11_qTakes_133 σ ) else (if (σ.1 0 103) = 0 then (if x1 = 4 then (if (lg_cmp y2 (σ.2.1 0 102)) ≤ 0 then (S_X11_qTakes_133 σ ) else (S_X11_qTakes_128 σ y2)) else (if 0 ≤ (lg_cmp y2 (σ.2.1 0 102)) then (S_X11_qTakes_133 σ ) else (S_X11_qTakes_128 σ y2))) else (S_X11_qTakes_128 σ y2))
theorem SC_X11_qTakes_90 {E : sw_E} {d : Nat} (hd : 0 ≤ d) {p : Unit × sw_St} {σ : sw_St} {x1 : Int32} {y2 : Int64} (h : S_X11_qTakes_90 σ x1 y2 = some p) : sw_W E sw_gM m_X11_qTakes d 90 [(0, .ref 0), (1, .int x1), (2, .long y2)] [] σ (sw_pV p) := by
  unfold S_X11_qTakes_90 at h
  refine B_X11_qTakes_90  (fun hc => ?_) (fun hc => ?_)
  · rw [if_pos hc] at h
    exact SC_X11_qTakes_133 hd h
  · rw [if_neg hc] at h
    refine B_X11_qTakes_95  (fun hc => ?_) (fun hc => ?_)
    · rw [if_neg hc] at h
      exact SC_X11_qTakes_128 hd h
    · rw [if_pos hc] at h
      refine B_X11_qTakes_102  (fun hc => ?_) (fun hc => ?_)
      · rw [if_neg hc] at h
        refine B_X11_qTakes_119  (fun hc => ?_) (fun hc => ?_)
        · rw [if_pos hc] at h
          exact SC_X11_qTakes_133 hd h
        · rw [if_neg hc] at h
          exact SC_X11_qTakes_128 hd h
      · rw [if_pos hc] at h
        refine B_X11_qTakes_107  (fun hc => ?_) (fun hc => ?_)
        · rw [if_pos hc] at h
          exact SC_X11_qTakes_133 hd h
        · rw [if_neg hc] at h
          refine B_X11_qTakes_116  ?_
          exact SC_X11_qTakes_128 hd h
noncomputable def S_X11_qTakes_75 (σ : sw_St) (x1 : Int32) (y2 : Int64) : Option (Unit × sw_St) :=
  if x1 = 3 then (S_X11_qTakes_90 (sw_uL σ 0 102 ((σ.2.1 0 102) + y2)) x1 y2) else (S_X11_qTakes_90 σ x1 y2)
theorem SC_X11_qTakes_75 {E : sw_E} {d : Nat} (hd : 0 ≤ d) {p : Unit × sw_St} {σ : sw_St} {x1 : Int32} {y2 : Int64} (h : S_X11_qTakes_75 σ x1 y2 = some p) : sw_W E sw_gM m_X11_qTakes d 75 [(0, .ref 0), (1, .int x1), (2, .long y2)] [] σ (sw_pV p) := by
  unfold S_X11_qTakes_75 at h
  refine B_X11_qTakes_75  (fun hc => ?_) (fun hc => ?_)
  · rw [if_neg hc] at h
    exact SC_X11_qTakes_90 hd h
  · rw [if_pos hc] at h
    refine B_X11_qTakes_80  ?_
    exact SC_X11_qTakes_90 hd h
noncomputable def S_X11_qTakes_55 (σ : sw_St) (x1 : Int32) (y2 : Int64) (x5 : Int32) : Option (Unit × sw_St) :=
  if x1 = 2 then (if x5 = 0 then (S_X11_qTakes_75 σ x1 y2) else (S_X11_qTakes_75 (sw_uL σ 0 102 ((σ.2.1 0 102) + 1)) x1 y2)) else (S_X11_qTakes_75 σ x1 y2)
theorem SC_X11_qTakes_55 {E : sw_E} {d : Nat} (hd : 0 ≤ d) {p : Unit × sw_St} {σ : sw_St} {x1 : Int32} {y2 : Int64} {x5 : Int32} (h : S_X11_qTakes_55 σ x1 y2 x5 = some p) : sw_W E sw_gM m_X11_qTakes d 55 [(0, .ref 0), (1, .int x1), (2, .long y2), (5, .int x5)] [] σ (sw_pV p) := by
  unfold S_X11_qTakes_55 at h
  refine B_X11_qTakes_55  (fun hc => ?_) (fun hc => ?_)
  · rw [if_neg hc] at h
    exact SC_X11_qTakes_75 hd h
  · rw [if_pos hc] at h
    refine B_X11_qTakes_60  (fun hc => ?_) (fun hc => ?_)
    · rw [if_pos hc] at h
      exact SC_X11_qTakes_75 hd h
    · rw [if_neg hc] at h
      refine B_X11_qTakes_65  ?_
      exact SC_X11_qTakes_75 hd h
noncomputable def S_X11_qTakes_48 (σ : sw_St) (x1 : Int32) (y2 : Int64) (x4 : Int32) (x5 : Int32) : Option (Unit × sw_St) :=
  S_X11_qTakes_55 (sw_uL σ 0 102 x4.toInt64) x1 y2 x5
theorem SC_X11_qTakes_48 {E : sw_E} {d : Nat} (hd : 0 ≤ d) {p : Unit × sw_St} {σ : sw_St} {x1 : Int32} {y2 : Int64} {x4 : Int32} {x5 : Int32} (h : S_X11_qTakes_48 σ x1 y2 x4 x5 = some p) : sw_W E sw_gM m_X11_qTakes d 48 [(0, .ref 0), (1, .int x1), (2, .long y2), (4, .int x4), (5, .int x5)] [] σ (sw_pV p) := by
  unfold S_X11_qTakes_48 at h
  refine B_X11_qTakes_48  ?_
  exact SC_X11_qTakes_55 hd h
noncomputable def S_X11_qTakes_38 (σ : sw_St) (x1 : Int32) (y2 : Int64) (x4 : Int32) (x5 : Int32) : Option (Unit × sw_St) :=
  if x1 = 1 then (if x5 = 0 then (S_X11_qTakes_55 σ x1 y2 x5) else (S_X11_qTakes_48 σ x1 y2 x4 x5)) else (S_X11_qTakes_55 σ x1 y2 x5)
theorem SC_X11_qTakes_38 {E : sw_E} {d : Nat} (hd : 0 ≤ d) {p : Unit × sw_St} {σ : sw_St} {x1 : Int32} {y2 : Int64} {x4 : Int32} {x5 : Int32} (h : S_X11_qTakes_38 σ x1 y2 x4 x5 = some p) : sw_W E sw_gM m_X11_qTakes d 38 [(0, .ref 0), (1, .int x1), (2, .long y2), (4, .int x4), (5, .int x5)] [] σ (sw_pV p) := by
  unfold S_X11_qTakes_38 at h
  refine B_X11_qTakes_38  (fun hc => ?_) (fun hc => ?_)
  · rw [if_neg hc] at h
    exact SC_X11_qTakes_55 hd h
  · rw [if_pos hc] at h
    refine B_X11_qTakes_43  (fun hc => ?_) (fun hc => ?_)
    · rw [if_pos hc] at h
      exact SC_X11_qTakes_55 hd h
    · rw [if_neg hc] at h
      exact SC_X11_qTakes_48 hd h
noncomputable def S_X11_qTakes_16 (σ : sw_St) (x1 : Int32) (y2 : Int64) (x4 : Int32) (sx0 : Int32) : Option (Unit × sw_St) :=
  if x1 = 0 then (if sx0 = 0 then (S_X11_qTakes_38 σ x1 y2 x4 sx0) else (if (lg_cmp (σ.2.1 0 102) (-1)) = 0 then (S_X11_qTakes_48 σ x1 y2 x4 sx0) else (S_X11_qTakes_38 σ x1 y2 x4 sx0))) else (S_X11_qTakes_38 σ x1 y2 x4 sx0)
theorem SC_X11_qTakes_16 {E : sw_E} {d : Nat} (hd : 0 ≤ d) {p : Unit × sw_St} {σ : sw_St} {x1 : Int32} {y2 : Int64} {x4 : Int32} {sx0 : Int32} (h : S_X11_qTakes_16 σ x1 y2 x4 sx0 = some p) : sw_W E sw_gM m_X11_qTakes d 16 [(0, .ref 0), (1, .int x1), (2, .long y2), (4, .int x4)] [.int sx0] σ (sw_pV p) := by
  unfold S_X11_qTakes_16 at h
  refine B_X11_qTakes_16  (fun hc => ?_) (fun hc => ?_)
  · rw [if_neg hc] at h
    exact SC_X11_qTakes_38 hd h
  · rw [if_pos hc] at h
    refine B_X11_qTakes_22  (fun hc => ?_) (fun hc => ?_)
    · rw [if_pos hc] at h
      exact SC_X11_qTakes_38 hd h
    · rw [if_neg hc] at h
      refine B_X11_qTakes_27  (fun hc => ?_) (fun hc => ?_)
      · rw [if_pos hc] at h
        exact SC_X11_qTakes_48 hd h
      · rw [if_neg hc] at h
        exact SC_X11_qTakes_38 hd h
noncomputable def S_X11_qTakes_15 (σ : sw_St) (x1 : Int32) (y2 : Int64) (x4 : Int32) : Option (Unit × sw_St) :=
  S_X11_qTakes_16 σ x1 y2 x4 0
theorem SC_X11_qTakes_15 {E : sw_E} {d : Nat} (hd : 0 ≤ d) {p : Unit × sw_St} {σ : sw_St} {x1 : Int32} {y2 : Int64} {x4 : Int32} (h : S_X11_qTakes_15 σ x1 y2 x4 = some p) : sw_W E sw_gM m_X11_qTakes d 15 [(0, .ref 0), (1, .int x1), (2, .long y2), (4, .int x4)] [] σ (sw_pV p) := by
  unfold S_X11_qTakes_15 at h
  refine B_X11_qTakes_15  ?_
  exact SC_X11_qTakes_16 hd h
noncomputable def F_X11_qTakes (σ : sw_St) (x1 : Int32) (y2 : Int64) (x4 : Int32) : Option (Unit × sw_St) :=
  if 3 ≤ x1 then (S_X11_qTakes_15 σ x1 y2 x4) else (if (lg_cmp y2 1) = 0 then (S_X11_qTakes_16 σ x1 y2 x4 1) else (S_X11_qTakes_15 σ x1 y2 x4))
theorem FC_X11_qTakes {E : sw_E} {d : Nat} (hd : 0 ≤ d) {p : Unit × sw_St} {σ : sw_St} {x1 : Int32} {y2 : Int64} {x4 : Int32} (h : F_X11_qTakes σ x1 y2 x4 = some p) : sw_KV E sw_gM m_X11_qTakes d [.ref 0, .int x1, .long y2, .int x4] σ (fun s => s = p.2) := by
  unfold F_X11_qTakes at h
  refine sw_K.of (by decide +kernel) rfl (Nat.le_of_ble_eq_true rfl) ?_
  show sw_W E sw_gM m_X11_qTakes d 0 [(0, .ref 0), (1, .int x1), (2, .long y2), (4, .int x4)] [] σ (sw_pV p)
  refine B_X11_qTakes_0  (fun hc => ?_) (fun hc => ?_)
  · rw [if_pos hc] at h
    exact SC_X11_qTakes_15 hd h
  · rw [if_neg hc] at h
    refine B_X11_qTakes_5  (fun hc => ?_) (fun hc => ?_)
    · rw [if_neg hc] at h
      exact SC_X11_qTakes_15 hd h
    · rw [if_pos hc] at h
      refine B_X11_qTakes_11  ?_
      exact SC_X11_qTakes_16 hd h
/-! StrayWoolModel.checked([II)I -/
noncomputable def S_X11_checked_6 (c6 : sw_St → Nat → Int32 → Int32 → Int32 → Option (Int32 × sw_St)) (σ : sw_St) (o0 : Nat) (x1 : Int32) (x2 : Int32) (x3 : Int32) : Option (Int32 × sw_St) :=
  if x1 ≤ x3 then (some (x2, σ)) else (if sw_isA sw_gM o0 0 = true then (if sw_inb x3 (sw_ln sw_gM o0) = true then (c6 σ o0 x1 (((3 * x2) + (σ.1 o0 x3.toNatClampNeg)) - ((3 * x2) + (σ.1 o0 x3.toNatClampNeg)) / 251 * 251) (x3 + 1)) else none) else none)
theorem SC_X11_checked_6 {E : sw_E} {d : Nat} (hd : 0 ≤ d) {p : Int32 × sw_St} {c6 : sw_St → Nat → Int32 → Int32 → Int32 → Option (Int32 × sw_St)} (h6 : ∀ (σ : sw_St) (o0 : Nat) (x1 : Int32) (x2 : Int32) (x3 : Int32), c6 σ o0 x1 x2 x3 = some p → sw_W E sw_gM m_X11_checked d 6 [(0, .ref o0), (1, .int x1), (2, .int x2), (3, .int x3)] [] σ (sw_pI p)) {σ : sw_St} {o0 : Nat} {x1 : Int32} {x2 : Int32} {x3 : Int32} (h : S_X11_checked_6 c6 σ o0 x1 x2 x3 = some p) : sw_W E sw_gM m_X11_checked d 6 [(0, .ref o0), (1, .int x1), (2, .int x2), (3, .int x3)] [] σ (sw_pI p) := by
  unfold S_X11_checked_6 at h
  refine B_X11_checked_6  (fun hc => ?_) (fun hc => ?_)
  · rw [if_pos hc] at h
    cases h
    exact B_X11_checked_29  ⟨_, rfl, rfl, rfl⟩
  · rw [if_neg hc] at h
    obtain ⟨o1, h⟩ := sw_ifs h
    obtain ⟨o2, h⟩ := sw_ifs h
    refine B_X11_checked_11 o1 (sw_inb_sp o2) ?_
    exact h6 _ _ _ _ _ h
noncomputable def L_X11_checked_6 : Nat → sw_St → Nat → Int32 → Int32 → Int32 → Option (Int32 × sw_St)
  | 0, _, _, _, _, _ => none
  | k + 1, σ, o0, x1, x2, x3 => S_X11_checked_6 (fun σ o0 x1 x2 x3 => L_X11_checked_6 k σ o0 x1 x2 x3) σ o0 x1 x2 x3
theorem LC_X11_checked_6 {E : sw_E} {d : Nat} (hd : 0 ≤ d) {p : Int32 × sw_St} : ∀ (k : Nat) (σ : sw_St) (o0 : Nat) (x1 : Int32) (x2 : Int32) (x3 : Int32), L_X11_checked_6 k σ o0 x1 x2 x3 = some p → sw_W E sw_gM m_X11_checked d 6 [(0, .ref o0), (1, .int x1), (2, .int x2), (3, .int x3)] [] σ (sw_pI p) := by
  intro k
  induction k with
  | zero => intro σ o0 x1 x2 x3 h; cases h
  | succ k ih => intro σ o0 x1 x2 x3 h; exact SC_X11_checked_6 hd ih h
noncomputable def F_X11_checked (σ : sw_St) (o0 : Nat) (x1 : Int32) : Option (Int32 × sw_St) :=
  L_X11_checked_6 sw_fuel σ o0 x1 227 0
theorem FC_X11_checked {E : sw_E} {d : Nat} (hd : 0 ≤ d) {p : Int32 × sw_St} {σ : sw_St} {o0 : Nat} {x1 : Int32} (h : F_X11_checked σ o0 x1 = some p) : sw_KI E sw_gM m_X11_checked d [.ref o0, .int x1] σ (fun v s => v = p.1 ∧ s = p.2) := by
  unfold F_X11_checked at h
  refine sw_K.of (by decide +kernel) rfl (Nat.le_of_ble_eq_true rfl) ?_
  show sw_W E sw_gM m_X11_checked d 0 [(0, .ref o0), (1, .int x1)] [] σ (sw_pI p)
  refine B_X11_checked_0  ?_
  exact LC_X11_checked_6 hd _ _ _ _ _ _ h
/-! StrayWoolModel.writes(I)V -/
noncomputable def F_X11_writes (σ : sw_St) (x1 : Int32) : Option (Unit × sw_St) :=
  if sw_inb (σ.1 0 105) 94 = true then (some ((), (sw_uI (sw_uI σ 74 ((σ.1 0 105).toNatClampNeg) x1) 0 105 ((σ.1 0 105) + 1)))) else none
theorem FC_X11_writes {E : sw_E} {d : Nat} (hd : 0 ≤ d) {p : Unit × sw_St} {σ : sw_St} {x1 : Int32} (h : F_X11_writes σ x1 = some p) : sw_KV E sw_gM m_X11_writes d [.ref 0, .int x1] σ (fun s => s = p.2) := by
  unfold F_X11_writes at h
  refine sw_K.of (by decide +kernel) rfl (Nat.le_of_ble_eq_true rfl) ?_
  show sw_W E sw_gM m_X11_writes d 0 [(0, .ref 0), (1, .int x1)] [] σ (sw_pV p)
  obtain ⟨o1, h⟩ := sw_ifs h
  cases h
  exact B_X11_writes_0 (sw_inb_sp o1) ⟨rfl, rfl⟩
/-! StrayWoolModel.writesTwo(I)V -/
noncomputable def F_X11_writesTwo (σ : sw_St) (x1 : Int32) : Option (Unit × sw_St) :=
  (F_X11_writes σ (x1 / 256)).bind fun q1 => (F_X11_writes q1.2 (x1 - x1 / 256 * 256)).bind fun q2 => some ((), q2.2)
theorem FC_X11_writesTwo {E : sw_E} {d : Nat} (hd : 1 ≤ d) {p : Unit × sw_St} {σ : sw_St} {x1 : Int32} (h : F_X11_writesTwo σ x1 = some p) : sw_KV E sw_gM m_X11_writesTwo d [.ref 0, .int x1] σ (fun s => s = p.2) := by
  unfold F_X11_writesTwo at h
  refine sw_K.of (by decide +kernel) rfl (Nat.le_of_ble_eq_true rfl) ?_
  show sw_W E sw_gM m_X11_writesTwo d 0 [(0, .ref 0), (1, .int x1)] [] σ (sw_pV p)
  obtain ⟨q1, hq, h⟩ := sw_bnd h
  refine B_X11_writesTwo_0  (FC_X11_writes (Nat.le_refl _) hq) (Nat.lt_of_lt_of_le (by decide) hd) (fun s hvs => ?_)
  subst hvs
  obtain ⟨q2, hq, h⟩ := sw_bnd h
  refine B_X11_writesTwo_9  (FC_X11_writes (Nat.le_refl _) hq) (Nat.lt_of_lt_of_le (by decide) hd) (fun s hvs => ?_)
  subst hvs
  cases h
  exact B_X11_writesTwo_18  ⟨rfl, rfl⟩
/-! StrayWoolModel.image()I -/
noncomputable def S_X11_image_119 (c73 : sw_St → Int32 → Option (Int32 × sw_St)) (c119 : sw_St → Int32 → Int32 → Option (Int32 × sw_St)) (σ : sw_St) (x1 : Int32) (x2 : Int32) : Option (Int32 × sw_St) :=
  (F_X11_fieldMany σ ).bind fun q1 => if q1.1 ≤ x2 then (c73 q1.2 (x1 + 1)) else ((F_X11_seenOf q1.2 x1 x2).bind fun q2 => (F_X11_writes q2.2 q2.1).bind fun q3 => c119 q3.2 x1 (x2 + 1))
theorem SC_X11_image_119 {E : sw_E} {d : Nat} (hd : 2 ≤ d) {p : Int32 × sw_St} {c73 : sw_St → Int32 → Option (Int32 × sw_St)} {c119 : sw_St → Int32 → Int32 → Option (Int32 × sw_St)} (h73 : ∀ (σ : sw_St) (x1 : Int32), c73 σ x1 = some p → sw_W E sw_gM m_X11_image d 73 [(0, .ref 0), (1, .int x1)] [] σ (sw_pI p)) (h119 : ∀ (σ : sw_St) (x1 : Int32) (x2 : Int32), c119 σ x1 x2 = some p → sw_W E sw_gM m_X11_image d 119 [(0, .ref 0), (1, .int x1), (2, .int x2)] [] σ (sw_pI p)) {σ : sw_St} {x1 : Int32} {x2 : Int32} (h : S_X11_image_119 c73 c119 σ x1 x2 = some p) : sw_W E sw_gM m_X11_image d 119 [(0, .ref 0), (1, .int x1), (2, .int x2)] [] σ (sw_pI p) := by
  unfold S_X11_image_119 at h
  obtain ⟨q1, hq, h⟩ := sw_bnd h
  refine B_X11_image_119  (FC_X11_fieldMany (Nat.le_refl _) hq) (Nat.lt_of_lt_of_le (by decide) hd) (fun v s hvs => ?_)
  obtain ⟨hv1, hv2⟩ := hvs; subst hv1; subst hv2
  refine B_X11_image_124  (fun hc => ?_) (fun hc => ?_)
  · rw [if_pos hc] at h
    refine B_X11_image_143  ?_
    exact h73 _ _ h
  · rw [if_neg hc] at h
    obtain ⟨q2, hq, h⟩ := sw_bnd h
    refine B_X11_image_127  (FC_X11_seenOf (Nat.le_refl _) hq) (Nat.lt_of_lt_of_le (by decide) hd) (fun v s hvs => ?_)
    obtain ⟨hv1, hv2⟩ := hvs; subst hv1; subst hv2
    obtain ⟨q3, hq, h⟩ := sw_bnd h
    refine B_X11_image_134  (FC_X11_writes (Nat.le_refl _) hq) (Nat.lt_of_lt_of_le (by decide) hd) (fun s hvs => ?_)
    subst hvs
    refine B_X11_image_137  ?_
    exact h119 _ _ _ h
noncomputable def L_X11_image_119 (c73 : sw_St → Int32 → Option (Int32 × sw_St)) : Nat → sw_St → Int32 → Int32 → Option (Int32 × sw_St)
  | 0, _, _, _ => none
  | k + 1, σ, x1, x2 => S_X11_image_119 c73 (fun σ x1 x2 => L_X11_image_119 c73 k σ x1 x2) σ x1 x2
theorem LC_X11_image_119 {E : sw_E} {d : Nat} (hd : 2 ≤ d) {p : Int32 × sw_St} {c73 : sw_St → Int32 → Option (Int32 × sw_St)} (h73 : ∀ (σ : sw_St) (x1 : Int32), c73 σ x1 = some p → sw_W E sw_gM m_X11_image d 73 [(0, .ref 0), (1, .int x1)] [] σ (sw_pI p)) : ∀ (k : Nat) (σ : sw_St) (x1 : Int32) (x2 : Int32), L_X11_image_119 c73 k σ x1 x2 = some p → sw_W E sw_gM m_X11_image d 119 [(0, .ref 0), (1, .int x1), (2, .int x2)] [] σ (sw_pI p) := by
  intro k
  induction k with
  | zero => intro σ x1 x2 h; cases h
  | succ k ih => intro σ x1 x2 h; exact SC_X11_image_119 hd h73 ih h
noncomputable def S_X11_image_73 (c73 : sw_St → Int32 → Option (Int32 × sw_St)) (σ : sw_St) (x1 : Int32) : Option (Int32 × sw_St) :=
  (F_X11_sheepMany σ ).bind fun q1 => if q1.1 ≤ x1 then ((F_X11_checked q1.2 74 (q1.2.1 0 105)).bind fun q2 => (F_X11_writes q2.2 q2.1).bind fun q3 => some (q3.2.1 0 105, q3.2)) else ((F_X11_fieldOf q1.2 x1).bind fun q4 => (F_X11_writes q4.2 q4.1).bind fun q5 => (F_X11_woolOf q5.2 x1).bind fun q6 => (F_X11_writesTwo q6.2 q6.1).bind fun q7 => (F_X11_crimpOf q7.2 x1).bind fun q8 => (F_X11_writes q8.2 q8.1).bind fun q9 => (F_X11_ledOf q9.2 x1).bind fun q10 => (F_X11_writes q10.2 q10.1).bind fun q11 => L_X11_image_119 c73 sw_fuel q11.2 x1 0)
theorem SC_X11_image_73 {E : sw_E} {d : Nat} (hd : 2 ≤ d) {p : Int32 × sw_St} {c73 : sw_St → Int32 → Option (Int32 × sw_St)} (h73 : ∀ (σ : sw_St) (x1 : Int32), c73 σ x1 = some p → sw_W E sw_gM m_X11_image d 73 [(0, .ref 0), (1, .int x1)] [] σ (sw_pI p)) {σ : sw_St} {x1 : Int32} (h : S_X11_image_73 c73 σ x1 = some p) : sw_W E sw_gM m_X11_image d 73 [(0, .ref 0), (1, .int x1)] [] σ (sw_pI p) := by
  unfold S_X11_image_73 at h
  obtain ⟨q1, hq, h⟩ := sw_bnd h
  refine B_X11_image_73  (FC_X11_sheepMany (Nat.le_refl _) hq) (Nat.lt_of_lt_of_le (by decide) hd) (fun v s hvs => ?_)
  obtain ⟨hv1, hv2⟩ := hvs; subst hv1; subst hv2
  refine B_X11_image_78  (fun hc => ?_) (fun hc => ?_)
  · rw [if_pos hc] at h
    obtain ⟨q2, hq, h⟩ := sw_bnd h
    refine B_X11_image_149  (FC_X11_checked (Nat.le_refl _) hq) (Nat.lt_of_lt_of_le (by decide) hd) (fun v s hvs => ?_)
    obtain ⟨hv1, hv2⟩ := hvs; subst hv1; subst hv2
    obtain ⟨q3, hq, h⟩ := sw_bnd h
    refine B_X11_image_161  (FC_X11_writes (Nat.le_refl _) hq) (Nat.lt_of_lt_of_le (by decide) hd) (fun s hvs => ?_)
    subst hvs
    cases h
    exact B_X11_image_164  ⟨_, rfl, rfl, rfl⟩
  · rw [if_neg hc] at h
    obtain ⟨q4, hq, h⟩ := sw_bnd h
    refine B_X11_image_81  (FC_X11_fieldOf (Nat.le_refl _) hq) (Nat.lt_of_lt_of_le (by decide) hd) (fun v s hvs => ?_)
    obtain ⟨hv1, hv2⟩ := hvs; subst hv1; subst hv2
    obtain ⟨q5, hq, h⟩ := sw_bnd h
    refine B_X11_image_87  (FC_X11_writes (Nat.le_refl _) hq) (Nat.lt_of_lt_of_le (by decide) hd) (fun s hvs => ?_)
    subst hvs
    obtain ⟨q6, hq, h⟩ := sw_bnd h
    refine B_X11_image_90  (FC_X11_woolOf (Nat.le_refl _) hq) (Nat.lt_of_lt_of_le (by decide) hd) (fun v s hvs => ?_)
    obtain ⟨hv1, hv2⟩ := hvs; subst hv1; subst hv2
    obtain ⟨q7, hq, h⟩ := sw_bnd h
    refine B_X11_image_96  (FC_X11_writesTwo (Nat.le_refl _) hq) (Nat.lt_of_lt_of_le (by decide) hd) (fun s hvs => ?_)
    subst hvs
    obtain ⟨q8, hq, h⟩ := sw_bnd h
    refine B_X11_image_99  (FC_X11_crimpOf (Nat.le_refl _) hq) (Nat.lt_of_lt_of_le (by decide) hd) (fun v s hvs => ?_)
    obtain ⟨hv1, hv2⟩ := hvs; subst hv1; subst hv2
    obtain ⟨q9, hq, h⟩ := sw_bnd h
    refine B_X11_image_105  (FC_X11_writes (Nat.le_refl _) hq) (Nat.lt_of_lt_of_le (by decide) hd) (fun s hvs => ?_)
    subst hvs
    obtain ⟨q10, hq, h⟩ := sw_bnd h
    refine B_X11_image_108  (FC_X11_ledOf (Nat.le_refl _) hq) (Nat.lt_of_lt_of_le (by decide) hd) (fun v s hvs => ?_)
    obtain ⟨hv1, hv2⟩ := hvs; subst hv1; subst hv2
    obtain ⟨q11, hq, h⟩ := sw_bnd h
    refine B_X11_image_114  (FC_X11_writes (Nat.le_refl _) hq) (Nat.lt_of_lt_of_le (by decide) hd) (fun s hvs => ?_)
    subst hvs
    refine B_X11_image_117  ?_
    exact LC_X11_image_119 hd h73 _ _ _ _ h
noncomputable def L_X11_image_73 : Nat → sw_St → Int32 → Option (Int32 × sw_St)
  | 0, _, _ => none
  | k + 1, σ, x1 => S_X11_image_73 (fun σ x1 => L_X11_image_73 k σ x1) σ x1
theorem LC_X11_image_73 {E : sw_E} {d : Nat} (hd : 2 ≤ d) {p : Int32 × sw_St} : ∀ (k : Nat) (σ : sw_St) (x1 : Int32), L_X11_image_73 k σ x1 = some p → sw_W E sw_gM m_X11_image d 73 [(0, .ref 0), (1, .int x1)] [] σ (sw_pI p) := by
  intro k
  induction k with
  | zero => intro σ x1 h; cases h
  | succ k ih => intro σ x1 h; exact SC_X11_image_73 hd ih h
noncomputable def S_X11_image_45 (c45 : sw_St → Int32 → Option (Int32 × sw_St)) (σ : sw_St) (x1 : Int32) : Option (Int32 × sw_St) :=
  (F_X11_gapMany σ ).bind fun q1 => if q1.1 ≤ x1 then (L_X11_image_73 sw_fuel q1.2 0) else (if sw_inb (2 + x1) 245 = true then ((F_X11_writes q1.2 (q1.2.1 37 ((2 + x1).toNatClampNeg))).bind fun q3 => c45 q3.2 (x1 + 1)) else none)
theorem SC_X11_image_45 {E : sw_E} {d : Nat} (hd : 2 ≤ d) {p : Int32 × sw_St} {c45 : sw_St → Int32 → Option (Int32 × sw_St)} (h45 : ∀ (σ : sw_St) (x1 : Int32), c45 σ x1 = some p → sw_W E sw_gM m_X11_image d 45 [(0, .ref 0), (1, .int x1)] [] σ (sw_pI p)) {σ : sw_St} {x1 : Int32} (h : S_X11_image_45 c45 σ x1 = some p) : sw_W E sw_gM m_X11_image d 45 [(0, .ref 0), (1, .int x1)] [] σ (sw_pI p) := by
  unfold S_X11_image_45 at h
  obtain ⟨q1, hq, h⟩ := sw_bnd h
  refine B_X11_image_45  (FC_X11_gapMany (Nat.le_refl _) hq) (Nat.lt_of_lt_of_le (by decide) hd) (fun v s hvs => ?_)
  obtain ⟨hv1, hv2⟩ := hvs; subst hv1; subst hv2
  refine B_X11_image_50  (fun hc => ?_) (fun hc => ?_)
  · rw [if_pos hc] at h
    refine B_X11_image_71  ?_
    exact LC_X11_image_73 hd _ _ _ h
  · rw [if_neg hc] at h
    obtain ⟨o2, h⟩ := sw_ifs h
    obtain ⟨q3, hq, h⟩ := sw_bnd h
    refine B_X11_image_53 (sw_inb_sp o2) (FC_X11_writes (Nat.le_refl _) hq) (Nat.lt_of_lt_of_le (by decide) hd) (fun s hvs => ?_)
    subst hvs
    refine B_X11_image_65  ?_
    exact h45 _ _ h
noncomputable def L_X11_image_45 : Nat → sw_St → Int32 → Option (Int32 × sw_St)
  | 0, _, _ => none
  | k + 1, σ, x1 => S_X11_image_45 (fun σ x1 => L_X11_image_45 k σ x1) σ x1
theorem LC_X11_image_45 {E : sw_E} {d : Nat} (hd : 2 ≤ d) {p : Int32 × sw_St} : ∀ (k : Nat) (σ : sw_St) (x1 : Int32), L_X11_image_45 k σ x1 = some p → sw_W E sw_gM m_X11_image d 45 [(0, .ref 0), (1, .int x1)] [] σ (sw_pI p) := by
  intro k
  induction k with
  | zero => intro σ x1 h; cases h
  | succ k ih => intro σ x1 h; exact SC_X11_image_45 hd ih h
noncomputable def F_X11_image (σ : sw_St) : Option (Int32 × sw_St) :=
  (F_X11_writesTwo (sw_uI σ 0 105 0) (σ.1 37 0)).bind fun q1 => (F_X11_writes q1.2 ((q1.2.1 37 1) / 65536)).bind fun q2 => (F_X11_writesTwo q2.2 ((q2.2.1 37 1) - (q2.2.1 37 1) / 65536 * 65536)).bind fun q3 => L_X11_image_45 sw_fuel q3.2 0
theorem FC_X11_image {E : sw_E} {d : Nat} (hd : 2 ≤ d) {p : Int32 × sw_St} {σ : sw_St} (h : F_X11_image σ  = some p) : sw_KI E sw_gM m_X11_image d [.ref 0] σ (fun v s => v = p.1 ∧ s = p.2) := by
  unfold F_X11_image at h
  refine sw_K.of (by decide +kernel) rfl (Nat.le_of_ble_eq_true rfl) ?_
  show sw_W E sw_gM m_X11_image d 0 [(0, .ref 0)] [] σ (sw_pI p)
  obtain ⟨q1, hq, h⟩ := sw_bnd h
  refine B_X11_image_0  (FC_X11_writesTwo (Nat.le_refl _) hq) (Nat.lt_of_lt_of_le (by decide) hd) (fun s hvs => ?_)
  subst hvs
  obtain ⟨q2, hq, h⟩ := sw_bnd h
  refine B_X11_image_15  (FC_X11_writes (Nat.le_refl _) hq) (Nat.lt_of_lt_of_le (by decide) hd) (fun s hvs => ?_)
  subst hvs
  obtain ⟨q3, hq, h⟩ := sw_bnd h
  refine B_X11_image_29  (FC_X11_writesTwo (Nat.le_refl _) hq) (Nat.lt_of_lt_of_le (by decide) hd) (fun s hvs => ?_)
  subst hvs
  refine B_X11_image_43  ?_
  exact LC_X11_image_45 hd _ _ _ h
/-! StrayWoolModel.octet(I)I -/
noncomputable def S_X11_octet_22 (σ : sw_St) (sx0 : Int32) : Option (Int32 × sw_St) :=
  some (sx0, σ)
theorem SC_X11_octet_22 {E : sw_E} {d : Nat} (hd : 0 ≤ d) {p : Int32 × sw_St} {σ : sw_St} {sx0 : Int32} (h : S_X11_octet_22 σ sx0 = some p) : sw_W E sw_gM m_X11_octet d 22 [] [.int sx0] σ (sw_pI p) := by
  unfold S_X11_octet_22 at h
  cases h
  exact B_X11_octet_22  ⟨_, rfl, rfl, rfl⟩
noncomputable def S_X11_octet_21 (σ : sw_St) : Option (Int32 × sw_St) :=
  S_X11_octet_22 σ (-1)
theorem SC_X11_octet_21 {E : sw_E} {d : Nat} (hd : 0 ≤ d) {p : Int32 × sw_St} {σ : sw_St} (h : S_X11_octet_21 σ  = some p) : sw_W E sw_gM m_X11_octet d 21 [] [] σ (sw_pI p) := by
  unfold S_X11_octet_21 at h
  refine B_X11_octet_21  ?_
  exact SC_X11_octet_22 hd h
noncomputable def F_X11_octet (σ : sw_St) (x1 : Int32) : Option (Int32 × sw_St) :=
  if x1 < 0 then (S_X11_octet_21 σ ) else (if (σ.1 0 105) ≤ x1 then (S_X11_octet_21 σ ) else (if sw_inb x1 94 = true then (S_X11_octet_22 σ (σ.1 74 x1.toNatClampNeg)) else none))
theorem FC_X11_octet {E : sw_E} {d : Nat} (hd : 0 ≤ d) {p : Int32 × sw_St} {σ : sw_St} {x1 : Int32} (h : F_X11_octet σ x1 = some p) : sw_KI E sw_gM m_X11_octet d [.ref 0, .int x1] σ (fun v s => v = p.1 ∧ s = p.2) := by
  unfold F_X11_octet at h
  refine sw_K.of (by decide +kernel) rfl (Nat.le_of_ble_eq_true rfl) ?_
  show sw_W E sw_gM m_X11_octet d 0 [(0, .ref 0), (1, .int x1)] [] σ (sw_pI p)
  refine B_X11_octet_0  (fun hc => ?_) (fun hc => ?_)
  · rw [if_pos hc] at h
    exact SC_X11_octet_21 hd h
  · rw [if_neg hc] at h
    refine B_X11_octet_4  (fun hc => ?_) (fun hc => ?_)
    · rw [if_pos hc] at h
      exact SC_X11_octet_21 hd h
    · rw [if_neg hc] at h
      obtain ⟨o1, h⟩ := sw_ifs h
      refine B_X11_octet_12 (sw_inb_sp o1) ?_
      exact SC_X11_octet_22 hd h
/-! StrayWoolModel.twoAt(I)I -/
noncomputable def F_X11_twoAt (σ : sw_St) (x1 : Int32) : Option (Int32 × sw_St) :=
  if sw_inb x1 1600 = true then (if sw_inb (x1 + 1) 1600 = true then (some ((256 * (σ.1 1 x1.toNatClampNeg)) + (σ.1 1 ((x1 + 1).toNatClampNeg)), σ)) else none) else none
theorem FC_X11_twoAt {E : sw_E} {d : Nat} (hd : 0 ≤ d) {p : Int32 × sw_St} {σ : sw_St} {x1 : Int32} (h : F_X11_twoAt σ x1 = some p) : sw_KI E sw_gM m_X11_twoAt d [.ref 0, .int x1] σ (fun v s => v = p.1 ∧ s = p.2) := by
  unfold F_X11_twoAt at h
  refine sw_K.of (by decide +kernel) rfl (Nat.le_of_ble_eq_true rfl) ?_
  show sw_W E sw_gM m_X11_twoAt d 0 [(0, .ref 0), (1, .int x1)] [] σ (sw_pI p)
  obtain ⟨o1, h⟩ := sw_ifs h
  obtain ⟨o2, h⟩ := sw_ifs h
  cases h
  exact B_X11_twoAt_0 (sw_inb_sp o1) (sw_inb_sp o2) ⟨_, rfl, rfl, rfl⟩
/-! StrayWoolModel.isSheepTold(I)Z -/
noncomputable def S_X11_isSheepTold_52 (σ : sw_St) : Option (Int32 × sw_St) :=
  some (0, σ)
theorem SC_X11_isSheepTold_52 {E : sw_E} {d : Nat} (hd : 2 ≤ d) {p : Int32 × sw_St} {σ : sw_St} (h : S_X11_isSheepTold_52 σ  = some p) : sw_W E sw_gM m_X11_isSheepTold d 52 [] [] σ (sw_pI p) := by
  unfold S_X11_isSheepTold_52 at h
  cases h
  exact B_X11_isSheepTold_52  ⟨_, rfl, rfl, rfl⟩
noncomputable def S_X11_isSheepTold_56 (c56 : sw_St → Int32 → Int32 → Option (Int32 × sw_St)) (σ : sw_St) (x1 : Int32) (x2 : Int32) : Option (Int32 × sw_St) :=
  (F_X11_fieldMany σ ).bind fun q1 => if q1.1 ≤ x2 then (some (1, q1.2)) else (if sw_inb ((x1 + 5) + x2) 1600 = true then (if (q1.2.1 1 (((x1 + 5) + x2).toNatClampNeg)) ≤ 99 then (c56 q1.2 x1 (x2 + 1)) else (some (0, q1.2))) else none)
theorem SC_X11_isSheepTold_56 {E : sw_E} {d : Nat} (hd : 2 ≤ d) {p : Int32 × sw_St} {c56 : sw_St → Int32 → Int32 → Option (Int32 × sw_St)} (h56 : ∀ (σ : sw_St) (x1 : Int32) (x2 : Int32), c56 σ x1 x2 = some p → sw_W E sw_gM m_X11_isSheepTold d 56 [(0, .ref 0), (1, .int x1), (2, .int x2)] [] σ (sw_pI p)) {σ : sw_St} {x1 : Int32} {x2 : Int32} (h : S_X11_isSheepTold_56 c56 σ x1 x2 = some p) : sw_W E sw_gM m_X11_isSheepTold d 56 [(0, .ref 0), (1, .int x1), (2, .int x2)] [] σ (sw_pI p) := by
  unfold S_X11_isSheepTold_56 at h
  obtain ⟨q1, hq, h⟩ := sw_bnd h
  refine B_X11_isSheepTold_56  (FC_X11_fieldMany (Nat.le_refl _) hq) (Nat.lt_of_lt_of_le (by decide) hd) (fun v s hvs => ?_)
  obtain ⟨hv1, hv2⟩ := hvs; subst hv1; subst hv2
  refine B_X11_isSheepTold_61  (fun hc => ?_) (fun hc => ?_)
  · rw [if_pos hc] at h
    cases h
    exact B_X11_isSheepTold_87  ⟨_, rfl, rfl, rfl⟩
  · rw [if_neg hc] at h
    obtain ⟨o2, h⟩ := sw_ifs h
    refine B_X11_isSheepTold_64 (sw_inb_sp o2) (fun hc => ?_) (fun hc => ?_)
    · rw [if_pos hc] at h
      refine B_X11_isSheepTold_81  ?_
      exact h56 _ _ _ h
    · rw [if_neg hc] at h
      cases h
      exact B_X11_isSheepTold_79  ⟨_, rfl, rfl, rfl⟩
noncomputable def L_X11_isSheepTold_56 : Nat → sw_St → Int32 → Int32 → Option (Int32 × sw_St)
  | 0, _, _, _ => none
  | k + 1, σ, x1, x2 => S_X11_isSheepTold_56 (fun σ x1 x2 => L_X11_isSheepTold_56 k σ x1 x2) σ x1 x2
theorem LC_X11_isSheepTold_56 {E : sw_E} {d : Nat} (hd : 2 ≤ d) {p : Int32 × sw_St} : ∀ (k : Nat) (σ : sw_St) (x1 : Int32) (x2 : Int32), L_X11_isSheepTold_56 k σ x1 x2 = some p → sw_W E sw_gM m_X11_isSheepTold d 56 [(0, .ref 0), (1, .int x1), (2, .int x2)] [] σ (sw_pI p) := by
  intro k
  induction k with
  | zero => intro σ x1 x2 h; cases h
  | succ k ih => intro σ x1 x2 h; exact SC_X11_isSheepTold_56 hd ih h
noncomputable def F_X11_isSheepTold (σ : sw_St) (x1 : Int32) : Option (Int32 × sw_St) :=
  if sw_inb x1 1600 = true then ((F_X11_isField σ ((σ.1 1 x1.toNatClampNeg).toInt64)).bind fun q2 => if q2.1 = 0 then (S_X11_isSheepTold_52 q2.2 ) else ((F_X11_twoAt q2.2 (x1 + 1)).bind fun q3 => if 999 < q3.1 then (S_X11_isSheepTold_52 q3.2 ) else (if sw_inb (x1 + 3) 1600 = true then (if 64 ≤ (q3.2.1 1 ((x1 + 3).toNatClampNeg)) then (S_X11_isSheepTold_52 q3.2 ) else (if sw_inb (x1 + 4) 1600 = true then (if (q3.2.1 1 ((x1 + 4).toNatClampNeg)) ≤ 1 then (L_X11_isSheepTold_56 sw_fuel q3.2 x1 0) else (S_X11_isSheepTold_52 q3.2 )) else none)) else none))) else none
theorem FC_X11_isSheepTold {E : sw_E} {d : Nat} (hd : 2 ≤ d) {p : Int32 × sw_St} {σ : sw_St} {x1 : Int32} (h : F_X11_isSheepTold σ x1 = some p) : sw_KI E sw_gM m_X11_isSheepTold d [.ref 0, .int x1] σ (fun v s => v = p.1 ∧ s = p.2) := by
  unfold F_X11_isSheepTold at h
  refine sw_K.of (by decide +kernel) rfl (Nat.le_of_ble_eq_true rfl) ?_
  show sw_W E sw_gM m_X11_isSheepTold d 0 [(0, .ref 0), (1, .int x1)] [] σ (sw_pI p)
  obtain ⟨o1, h⟩ := sw_ifs h
  obtain ⟨q2, hq, h⟩ := sw_bnd h
  refine B_X11_isSheepTold_0 (sw_inb_sp o1) (FC_X11_isField (Nat.le_refl _) hq) (Nat.lt_of_lt_of_le (by decide) hd) (fun v s hvs => ?_)
  obtain ⟨hv1, hv2⟩ := hvs; subst hv1; subst hv2
  refine B_X11_isSheepTold_11  (fun hc => ?_) (fun hc => ?_)
  · rw [if_pos hc] at h
    exact SC_X11_isSheepTold_52 hd h
  · rw [if_neg hc] at h
    obtain ⟨q3, hq, h⟩ := sw_bnd h
    refine B_X11_isSheepTold_14  (FC_X11_twoAt (Nat.le_refl _) hq) (Nat.lt_of_lt_of_le (by decide) hd) (fun v s hvs => ?_)
    obtain ⟨hv1, hv2⟩ := hvs; subst hv1; subst hv2
    refine B_X11_isSheepTold_21  (fun hc => ?_) (fun hc => ?_)
    · rw [if_pos hc] at h
      exact SC_X11_isSheepTold_52 hd h
    · rw [if_neg hc] at h
      obtain ⟨o4, h⟩ := sw_ifs h
      refine B_X11_isSheepTold_27 (sw_inb_sp o4) (fun hc => ?_) (fun hc => ?_)
      · rw [if_pos hc] at h
        exact SC_X11_isSheepTold_52 hd h
      · rw [if_neg hc] at h
        obtain ⟨o5, h⟩ := sw_ifs h
        refine B_X11_isSheepTold_40 (sw_inb_sp o5) (fun hc => ?_) (fun hc => ?_)
        · rw [if_pos hc] at h
          refine B_X11_isSheepTold_54  ?_
          exact LC_X11_isSheepTold_56 hd _ _ _ _ h
        · rw [if_neg hc] at h
          exact SC_X11_isSheepTold_52 hd h
/-! StrayWoolModel.isImage(I)Z -/
noncomputable def S_X11_isImage_82 (σ : sw_St) : Option (Int32 × sw_St) :=
  some (0, σ)
theorem SC_X11_isImage_82 {E : sw_E} {d : Nat} (hd : 3 ≤ d) {p : Int32 × sw_St} {σ : sw_St} (h : S_X11_isImage_82 σ  = some p) : sw_W E sw_gM m_X11_isImage d 82 [] [] σ (sw_pI p) := by
  unfold S_X11_isImage_82 at h
  cases h
  exact B_X11_isImage_82  ⟨_, rfl, rfl, rfl⟩
noncomputable def S_X11_isImage_115 (c115 : sw_St → Int32 → Int32 → Int32 → Option (Int32 × sw_St)) (σ : sw_St) (x2 : Int32) (x3 : Int32) (x4 : Int32) : Option (Int32 × sw_St) :=
  (F_X11_sheepMany σ ).bind fun q1 => if q1.1 ≤ x4 then (some (1, q1.2)) else ((F_X11_isSheepTold q1.2 (x2 + (x3 * x4))).bind fun q2 => if q2.1 = 0 then (some (0, q2.2)) else (c115 q2.2 x2 x3 (x4 + 1)))
theorem SC_X11_isImage_115 {E : sw_E} {d : Nat} (hd : 3 ≤ d) {p : Int32 × sw_St} {c115 : sw_St → Int32 → Int32 → Int32 → Option (Int32 × sw_St)} (h115 : ∀ (σ : sw_St) (x2 : Int32) (x3 : Int32) (x4 : Int32), c115 σ x2 x3 x4 = some p → sw_W E sw_gM m_X11_isImage d 115 [(0, .ref 0), (2, .int x2), (3, .int x3), (4, .int x4)] [] σ (sw_pI p)) {σ : sw_St} {x2 : Int32} {x3 : Int32} {x4 : Int32} (h : S_X11_isImage_115 c115 σ x2 x3 x4 = some p) : sw_W E sw_gM m_X11_isImage d 115 [(0, .ref 0), (2, .int x2), (3, .int x3), (4, .int x4)] [] σ (sw_pI p) := by
  unfold S_X11_isImage_115 at h
  obtain ⟨q1, hq, h⟩ := sw_bnd h
  refine B_X11_isImage_115  (FC_X11_sheepMany (Nat.le_refl _) hq) (Nat.lt_of_lt_of_le (by decide) hd) (fun v s hvs => ?_)
  obtain ⟨hv1, hv2⟩ := hvs; subst hv1; subst hv2
  refine B_X11_isImage_121  (fun hc => ?_) (fun hc => ?_)
  · rw [if_pos hc] at h
    cases h
    exact B_X11_isImage_145  ⟨_, rfl, rfl, rfl⟩
  · rw [if_neg hc] at h
    obtain ⟨q2, hq, h⟩ := sw_bnd h
    refine B_X11_isImage_124  (FC_X11_isSheepTold (Nat.le_refl _) hq) (Nat.lt_of_lt_of_le (by decide) hd) (fun v s hvs => ?_)
    obtain ⟨hv1, hv2⟩ := hvs; subst hv1; subst hv2
    refine B_X11_isImage_134  (fun hc => ?_) (fun hc => ?_)
    · rw [if_neg hc] at h
      refine B_X11_isImage_139  ?_
      exact h115 _ _ _ _ h
    · rw [if_pos hc] at h
      cases h
      exact B_X11_isImage_137  ⟨_, rfl, rfl, rfl⟩
noncomputable def L_X11_isImage_115 : Nat → sw_St → Int32 → Int32 → Int32 → Option (Int32 × sw_St)
  | 0, _, _, _, _ => none
  | k + 1, σ, x2, x3, x4 => S_X11_isImage_115 (fun σ x2 x3 x4 => L_X11_isImage_115 k σ x2 x3 x4) σ x2 x3 x4
theorem LC_X11_isImage_115 {E : sw_E} {d : Nat} (hd : 3 ≤ d) {p : Int32 × sw_St} : ∀ (k : Nat) (σ : sw_St) (x2 : Int32) (x3 : Int32) (x4 : Int32), L_X11_isImage_115 k σ x2 x3 x4 = some p → sw_W E sw_gM m_X11_isImage d 115 [(0, .ref 0), (2, .int x2), (3, .int x3), (4, .int x4)] [] σ (sw_pI p) := by
  intro k
  induction k with
  | zero => intro σ x2 x3 x4 h; cases h
  | succ k ih => intro σ x2 x3 x4 h; exact SC_X11_isImage_115 hd ih h
noncomputable def S_X11_isImage_87 (c87 : sw_St → Int32 → Int32 → Int32 → Option (Int32 × sw_St)) (σ : sw_St) (x2 : Int32) (x3 : Int32) (x4 : Int32) : Option (Int32 × sw_St) :=
  if x2 ≤ x4 then (L_X11_isImage_115 sw_fuel σ x2 x3 0) else (if sw_inb x4 1600 = true then (if (σ.1 1 x4.toNatClampNeg) ≤ 1 then (c87 σ x2 x3 (x4 + 1)) else (some (0, σ))) else none)
theorem SC_X11_isImage_87 {E : sw_E} {d : Nat} (hd : 3 ≤ d) {p : Int32 × sw_St} {c87 : sw_St → Int32 → Int32 → Int32 → Option (Int32 × sw_St)} (h87 : ∀ (σ : sw_St) (x2 : Int32) (x3 : Int32) (x4 : Int32), c87 σ x2 x3 x4 = some p → sw_W E sw_gM m_X11_isImage d 87 [(0, .ref 0), (2, .int x2), (3, .int x3), (4, .int x4)] [] σ (sw_pI p)) {σ : sw_St} {x2 : Int32} {x3 : Int32} {x4 : Int32} (h : S_X11_isImage_87 c87 σ x2 x3 x4 = some p) : sw_W E sw_gM m_X11_isImage d 87 [(0, .ref 0), (2, .int x2), (3, .int x3), (4, .int x4)] [] σ (sw_pI p) := by
  unfold S_X11_isImage_87 at h
  refine B_X11_isImage_87  (fun hc => ?_) (fun hc => ?_)
  · rw [if_pos hc] at h
    refine B_X11_isImage_112  ?_
    exact LC_X11_isImage_115 hd _ _ _ _ _ h
  · rw [if_neg hc] at h
    obtain ⟨o1, h⟩ := sw_ifs h
    refine B_X11_isImage_93 (sw_inb_sp o1) (fun hc => ?_) (fun hc => ?_)
    · rw [if_pos hc] at h
      refine B_X11_isImage_106  ?_
      exact h87 _ _ _ _ h
    · rw [if_neg hc] at h
      cases h
      exact B_X11_isImage_104  ⟨_, rfl, rfl, rfl⟩
noncomputable def L_X11_isImage_87 : Nat → sw_St → Int32 → Int32 → Int32 → Option (Int32 × sw_St)
  | 0, _, _, _, _ => none
  | k + 1, σ, x2, x3, x4 => S_X11_isImage_87 (fun σ x2 x3 x4 => L_X11_isImage_87 k σ x2 x3 x4) σ x2 x3 x4
theorem LC_X11_isImage_87 {E : sw_E} {d : Nat} (hd : 3 ≤ d) {p : Int32 × sw_St} : ∀ (k : Nat) (σ : sw_St) (x2 : Int32) (x3 : Int32) (x4 : Int32), L_X11_isImage_87 k σ x2 x3 x4 = some p → sw_W E sw_gM m_X11_isImage d 87 [(0, .ref 0), (2, .int x2), (3, .int x3), (4, .int x4)] [] σ (sw_pI p) := by
  intro k
  induction k with
  | zero => intro σ x2 x3 x4 h; cases h
  | succ k ih => intro σ x2 x3 x4 h; exact SC_X11_isImage_87 hd ih h
noncomputable def F_X11_isImage (σ : sw_St) (x1 : Int32) : Option (Int32 × sw_St) :=
  (F_X11_gapMany σ ).bind fun q1 => (F_X11_fieldMany q1.2 ).bind fun q2 => (F_X11_sheepMany q2.2 ).bind fun q3 => if x1 = (((5 + q1.1) + ((5 + q2.1) * q3.1)) + 1) then (if sw_inb (x1 - 1) 1600 = true then ((F_X11_checked q3.2 1 (x1 - 1)).bind fun q5 => if (q3.2.1 1 ((x1 - 1).toNatClampNeg)) = q5.1 then ((F_X11_twoAt q5.2 0).bind fun q6 => if 999 < q6.1 then (S_X11_isImage_82 q6.2 ) else ((F_X11_twoAt q6.2 3).bind fun q7 => if ((65536 * (q6.2.1 1 2)) + q7.1) ≤ 99999 then (L_X11_isImage_87 sw_fuel q7.2 (5 + q1.1) (5 + q2.1) 5) else (S_X11_isImage_82 q7.2 ))) else (S_X11_isImage_82 q5.2 )) else none) else (S_X11_isImage_82 q3.2 )
theorem FC_X11_isImage {E : sw_E} {d : Nat} (hd : 3 ≤ d) {p : Int32 × sw_St} {σ : sw_St} {x1 : Int32} (h : F_X11_isImage σ x1 = some p) : sw_KI E sw_gM m_X11_isImage d [.ref 0, .int x1] σ (fun v s => v = p.1 ∧ s = p.2) := by
  unfold F_X11_isImage at h
  refine sw_K.of (by decide +kernel) rfl (Nat.le_of_ble_eq_true rfl) ?_
  show sw_W E sw_gM m_X11_isImage d 0 [(0, .ref 0), (1, .int x1)] [] σ (sw_pI p)
  obtain ⟨q1, hq, h⟩ := sw_bnd h
  refine B_X11_isImage_0  (FC_X11_gapMany (Nat.le_refl _) hq) (Nat.lt_of_lt_of_le (by decide) hd) (fun v s hvs => ?_)
  obtain ⟨hv1, hv2⟩ := hvs; subst hv1; subst hv2
  obtain ⟨q2, hq, h⟩ := sw_bnd h
  refine B_X11_isImage_5  (FC_X11_fieldMany (Nat.le_refl _) hq) (Nat.lt_of_lt_of_le (by decide) hd) (fun v s hvs => ?_)
  obtain ⟨hv1, hv2⟩ := hvs; subst hv1; subst hv2
  obtain ⟨q3, hq, h⟩ := sw_bnd h
  refine B_X11_isImage_12  (FC_X11_sheepMany (Nat.le_refl _) hq) (Nat.lt_of_lt_of_le (by decide) hd) (fun v s hvs => ?_)
  obtain ⟨hv1, hv2⟩ := hvs; subst hv1; subst hv2
  refine B_X11_isImage_21  (fun hc => ?_) (fun hc => ?_)
  · rw [if_neg hc] at h
    exact SC_X11_isImage_82 hd h
  · rw [if_pos hc] at h
    obtain ⟨o4, h⟩ := sw_ifs h
    obtain ⟨q5, hq, h⟩ := sw_bnd h
    refine B_X11_isImage_28 (sw_inb_sp o4) (FC_X11_checked (Nat.le_refl _) hq) (Nat.lt_of_lt_of_le (by decide) hd) (fun v s hvs => ?_)
    obtain ⟨hv1, hv2⟩ := hvs; subst hv1; subst hv2
    refine B_X11_isImage_46  (fun hc => ?_) (fun hc => ?_)
    · rw [if_neg hc] at h
      exact SC_X11_isImage_82 hd h
    · rw [if_pos hc] at h
      obtain ⟨q6, hq, h⟩ := sw_bnd h
      refine B_X11_isImage_49  (FC_X11_twoAt (Nat.le_refl _) hq) (Nat.lt_of_lt_of_le (by decide) hd) (fun v s hvs => ?_)
      obtain ⟨hv1, hv2⟩ := hvs; subst hv1; subst hv2
      refine B_X11_isImage_54  (fun hc => ?_) (fun hc => ?_)
      · rw [if_pos hc] at h
        exact SC_X11_isImage_82 hd h
      · rw [if_neg hc] at h
        obtain ⟨q7, hq, h⟩ := sw_bnd h
        refine B_X11_isImage_60  (FC_X11_twoAt (Nat.le_refl _) hq) (Nat.lt_of_lt_of_le (by decide) hd) (fun v s hvs => ?_)
        obtain ⟨hv1, hv2⟩ := hvs; subst hv1; subst hv2
        refine B_X11_isImage_75  (fun hc => ?_) (fun hc => ?_)
        · rw [if_pos hc] at h
          refine B_X11_isImage_84  ?_
          exact LC_X11_isImage_87 hd _ _ _ _ _ h
        · rw [if_neg hc] at h
          exact SC_X11_isImage_82 hd h
/-! StrayWoolModel.on()Z -/
noncomputable def S_X11_on_221 (c116 : sw_St → Int32 → Int32 → Int32 → Option (Int32 × sw_St)) (c221 : sw_St → Int32 → Int32 → Int32 → Int32 → Int32 → Option (Int32 × sw_St)) (σ : sw_St) (x2 : Int32) (x3 : Int32) (x4 : Int32) (x5 : Int32) (x6 : Int32) : Option (Int32 × sw_St) :=
  (F_X11_fieldMany σ ).bind fun q1 => if q1.1 ≤ x6 then (c116 q1.2 x2 x3 (x4 + 1)) else (if sw_inb ((x5 + 5) + x6) 1600 = true then (if sw_inb ((16 + (12 * x4)) + x6) 245 = true then (c221 (sw_uI q1.2 37 (((16 + (12 * x4)) + x6).toNatClampNeg) (q1.2.1 1 (((x5 + 5) + x6).toNatClampNeg))) x2 x3 x4 x5 (x6 + 1)) else none) else none)
theorem SC_X11_on_221 {E : sw_E} {d : Nat} (hd : 4 ≤ d) {p : Int32 × sw_St} {c116 : sw_St → Int32 → Int32 → Int32 → Option (Int32 × sw_St)} {c221 : sw_St → Int32 → Int32 → Int32 → Int32 → Int32 → Option (Int32 × sw_St)} (h116 : ∀ (σ : sw_St) (x2 : Int32) (x3 : Int32) (x4 : Int32), c116 σ x2 x3 x4 = some p → sw_W E sw_gM m_X11_on d 116 [(0, .ref 0), (2, .int x2), (3, .int x3), (4, .int x4)] [] σ (sw_pI p)) (h221 : ∀ (σ : sw_St) (x2 : Int32) (x3 : Int32) (x4 : Int32) (x5 : Int32) (x6 : Int32), c221 σ x2 x3 x4 x5 x6 = some p → sw_W E sw_gM m_X11_on d 221 [(0, .ref 0), (2, .int x2), (3, .int x3), (4, .int x4), (5, .int x5), (6, .int x6)] [] σ (sw_pI p)) {σ : sw_St} {x2 : Int32} {x3 : Int32} {x4 : Int32} {x5 : Int32} {x6 : Int32} (h : S_X11_on_221 c116 c221 σ x2 x3 x4 x5 x6 = some p) : sw_W E sw_gM m_X11_on d 221 [(0, .ref 0), (2, .int x2), (3, .int x3), (4, .int x4), (5, .int x5), (6, .int x6)] [] σ (sw_pI p) := by
  unfold S_X11_on_221 at h
  obtain ⟨q1, hq, h⟩ := sw_bnd h
  refine B_X11_on_221  (FC_X11_fieldMany (Nat.le_refl _) hq) (Nat.lt_of_lt_of_le (by decide) hd) (fun v s hvs => ?_)
  obtain ⟨hv1, hv2⟩ := hvs; subst hv1; subst hv2
  refine B_X11_on_227  (fun hc => ?_) (fun hc => ?_)
  · rw [if_pos hc] at h
    refine B_X11_on_264  ?_
    exact h116 _ _ _ _ h
  · rw [if_neg hc] at h
    obtain ⟨o2, h⟩ := sw_ifs h
    obtain ⟨o3, h⟩ := sw_ifs h
    refine B_X11_on_230 (sw_inb_sp o2) (sw_inb_sp o3) ?_
    exact h221 _ _ _ _ _ _ h
noncomputable def L_X11_on_221 (c116 : sw_St → Int32 → Int32 → Int32 → Option (Int32 × sw_St)) : Nat → sw_St → Int32 → Int32 → Int32 → Int32 → Int32 → Option (Int32 × sw_St)
  | 0, _, _, _, _, _, _ => none
  | k + 1, σ, x2, x3, x4, x5, x6 => S_X11_on_221 c116 (fun σ x2 x3 x4 x5 x6 => L_X11_on_221 c116 k σ x2 x3 x4 x5 x6) σ x2 x3 x4 x5 x6
theorem LC_X11_on_221 {E : sw_E} {d : Nat} (hd : 4 ≤ d) {p : Int32 × sw_St} {c116 : sw_St → Int32 → Int32 → Int32 → Option (Int32 × sw_St)} (h116 : ∀ (σ : sw_St) (x2 : Int32) (x3 : Int32) (x4 : Int32), c116 σ x2 x3 x4 = some p → sw_W E sw_gM m_X11_on d 116 [(0, .ref 0), (2, .int x2), (3, .int x3), (4, .int x4)] [] σ (sw_pI p)) : ∀ (k : Nat) (σ : sw_St) (x2 : Int32) (x3 : Int32) (x4 : Int32) (x5 : Int32) (x6 : Int32), L_X11_on_221 c116 k σ x2 x3 x4 x5 x6 = some p → sw_W E sw_gM m_X11_on d 221 [(0, .ref 0), (2, .int x2), (3, .int x3), (4, .int x4), (5, .int x5), (6, .int x6)] [] σ (sw_pI p) := by
  intro k
  induction k with
  | zero => intro σ x2 x3 x4 x5 x6 h; cases h
  | succ k ih => intro σ x2 x3 x4 x5 x6 h; exact SC_X11_on_221 hd h116 ih h
noncomputable def S_X11_on_116 (c116 : sw_St → Int32 → Int32 → Int32 → Option (Int32 × sw_St)) (σ : sw_St) (x2 : Int32) (x3 : Int32) (x4 : Int32) : Option (Int32 × sw_St) :=
  (F_X11_sheepMany σ ).bind fun q1 => if q1.1 ≤ x4 then (some (1, (sw_uI (sw_uI q1.2 37 84 0) 0 67 0))) else (if sw_inb (x2 + (x3 * x4)) 1600 = true then (if sw_inb (12 + (12 * x4)) 245 = true then ((F_X11_twoAt (sw_uI q1.2 37 ((12 + (12 * x4)).toNatClampNeg) (q1.2.1 1 ((x2 + (x3 * x4)).toNatClampNeg))) ((x2 + (x3 * x4)) + 1)).bind fun q4 => if sw_inb (13 + (12 * x4)) 245 = true then (if sw_inb ((x2 + (x3 * x4)) + 3) 1600 = true then (if sw_inb (14 + (12 * x4)) 245 = true then (if sw_inb ((x2 + (x3 * x4)) + 4) 1600 = true then (if sw_inb (15 + (12 * x4)) 245 = true then (L_X11_on_221 c116 sw_fuel (sw_uI (sw_uI (sw_uI q4.2 37 (13 + (12 * x4)).toNatClampNeg q4.1) 37 ((14 + (12 * x4)).toNatClampNeg) (q4.2.1 1 (((x2 + (x3 * x4)) + 3).toNatClampNeg))) 37 ((15 + (12 * x4)).toNatClampNeg) (q4.2.1 1 (((x2 + (x3 * x4)) + 4).toNatClampNeg))) x2 x3 x4 (x2 + (x3 * x4)) 0) else none) else none) else none) else none) else none) else none) else none)
theorem SC_X11_on_116 {E : sw_E} {d : Nat} (hd : 4 ≤ d) {p : Int32 × sw_St} {c116 : sw_St → Int32 → Int32 → Int32 → Option (Int32 × sw_St)} (h116 : ∀ (σ : sw_St) (x2 : Int32) (x3 : Int32) (x4 : Int32), c116 σ x2 x3 x4 = some p → sw_W E sw_gM m_X11_on d 116 [(0, .ref 0), (2, .int x2), (3, .int x3), (4, .int x4)] [] σ (sw_pI p)) {σ : sw_St} {x2 : Int32} {x3 : Int32} {x4 : Int32} (h : S_X11_on_116 c116 σ x2 x3 x4 = some p) : sw_W E sw_gM m_X11_on d 116 [(0, .ref 0), (2, .int x2), (3, .int x3), (4, .int x4)] [] σ (sw_pI p) := by
  unfold S_X11_on_116 at h
  obtain ⟨q1, hq, h⟩ := sw_bnd h
  refine B_X11_on_116  (FC_X11_sheepMany (Nat.le_refl _) hq) (Nat.lt_of_lt_of_le (by decide) hd) (fun v s hvs => ?_)
  obtain ⟨hv1, hv2⟩ := hvs; subst hv1; subst hv2
  refine B_X11_on_122  (fun hc => ?_) (fun hc => ?_)
  · rw [if_pos hc] at h
    cases h
    exact B_X11_on_270  ⟨_, rfl, rfl, rfl⟩
  · rw [if_neg hc] at h
    obtain ⟨o2, h⟩ := sw_ifs h
    obtain ⟨o3, h⟩ := sw_ifs h
    obtain ⟨q4, hq, h⟩ := sw_bnd h
    refine B_X11_on_125 (sw_inb_sp o2) (sw_inb_sp o3) (FC_X11_twoAt (Nat.le_refl _) hq) (Nat.lt_of_lt_of_le (by decide) hd) (fun v s hvs => ?_)
    obtain ⟨hv1, hv2⟩ := hvs; subst hv1; subst hv2
    obtain ⟨o5, h⟩ := sw_ifs h
    obtain ⟨o6, h⟩ := sw_ifs h
    obtain ⟨o7, h⟩ := sw_ifs h
    obtain ⟨o8, h⟩ := sw_ifs h
    obtain ⟨o9, h⟩ := sw_ifs h
    refine B_X11_on_173 (sw_inb_sp o5) (sw_inb_sp o6) (sw_inb_sp o7) (sw_inb_sp o8) (sw_inb_sp o9) ?_
    exact LC_X11_on_221 hd h116 _ _ _ _ _ _ _ h
noncomputable def L_X11_on_116 : Nat → sw_St → Int32 → Int32 → Int32 → Option (Int32 × sw_St)
  | 0, _, _, _, _ => none
  | k + 1, σ, x2, x3, x4 => S_X11_on_116 (fun σ x2 x3 x4 => L_X11_on_116 k σ x2 x3 x4) σ x2 x3 x4
theorem LC_X11_on_116 {E : sw_E} {d : Nat} (hd : 4 ≤ d) {p : Int32 × sw_St} : ∀ (k : Nat) (σ : sw_St) (x2 : Int32) (x3 : Int32) (x4 : Int32), L_X11_on_116 k σ x2 x3 x4 = some p → sw_W E sw_gM m_X11_on d 116 [(0, .ref 0), (2, .int x2), (3, .int x3), (4, .int x4)] [] σ (sw_pI p) := by
  intro k
  induction k with
  | zero => intro σ x2 x3 x4 h; cases h
  | succ k ih => intro σ x2 x3 x4 h; exact SC_X11_on_116 hd ih h
noncomputable def S_X11_on_80 (c80 : sw_St → Int32 → Int32 → Int32 → Option (Int32 × sw_St)) (σ : sw_St) (x2 : Int32) (x3 : Int32) (x4 : Int32) : Option (Int32 × sw_St) :=
  (F_X11_gapMany σ ).bind fun q1 => if q1.1 ≤ x4 then (L_X11_on_116 sw_fuel q1.2 x2 x3 0) else (if sw_inb (5 + x4) 1600 = true then (if sw_inb (2 + x4) 245 = true then (c80 (sw_uI q1.2 37 ((2 + x4).toNatClampNeg) (q1.2.1 1 ((5 + x4).toNatClampNeg))) x2 x3 (x4 + 1)) else none) else none)
theorem SC_X11_on_80 {E : sw_E} {d : Nat} (hd : 4 ≤ d) {p : Int32 × sw_St} {c80 : sw_St → Int32 → Int32 → Int32 → Option (Int32 × sw_St)} (h80 : ∀ (σ : sw_St) (x2 : Int32) (x3 : Int32) (x4 : Int32), c80 σ x2 x3 x4 = some p → sw_W E sw_gM m_X11_on d 80 [(0, .ref 0), (2, .int x2), (3, .int x3), (4, .int x4)] [] σ (sw_pI p)) {σ : sw_St} {x2 : Int32} {x3 : Int32} {x4 : Int32} (h : S_X11_on_80 c80 σ x2 x3 x4 = some p) : sw_W E sw_gM m_X11_on d 80 [(0, .ref 0), (2, .int x2), (3, .int x3), (4, .int x4)] [] σ (sw_pI p) := by
  unfold S_X11_on_80 at h
  obtain ⟨q1, hq, h⟩ := sw_bnd h
  refine B_X11_on_80  (FC_X11_gapMany (Nat.le_refl _) hq) (Nat.lt_of_lt_of_le (by decide) hd) (fun v s hvs => ?_)
  obtain ⟨hv1, hv2⟩ := hvs; subst hv1; subst hv2
  refine B_X11_on_86  (fun hc => ?_) (fun hc => ?_)
  · rw [if_pos hc] at h
    refine B_X11_on_113  ?_
    exact LC_X11_on_116 hd _ _ _ _ _ h
  · rw [if_neg hc] at h
    obtain ⟨o2, h⟩ := sw_ifs h
    obtain ⟨o3, h⟩ := sw_ifs h
    refine B_X11_on_89 (sw_inb_sp o2) (sw_inb_sp o3) ?_
    exact h80 _ _ _ _ h
noncomputable def L_X11_on_80 : Nat → sw_St → Int32 → Int32 → Int32 → Option (Int32 × sw_St)
  | 0, _, _, _, _ => none
  | k + 1, σ, x2, x3, x4 => S_X11_on_80 (fun σ x2 x3 x4 => L_X11_on_80 k σ x2 x3 x4) σ x2 x3 x4
theorem LC_X11_on_80 {E : sw_E} {d : Nat} (hd : 4 ≤ d) {p : Int32 × sw_St} : ∀ (k : Nat) (σ : sw_St) (x2 : Int32) (x3 : Int32) (x4 : Int32), L_X11_on_80 k σ x2 x3 x4 = some p → sw_W E sw_gM m_X11_on d 80 [(0, .ref 0), (2, .int x2), (3, .int x3), (4, .int x4)] [] σ (sw_pI p) := by
  intro k
  induction k with
  | zero => intro σ x2 x3 x4 h; cases h
  | succ k ih => intro σ x2 x3 x4 h; exact SC_X11_on_80 hd ih h
noncomputable def F_X11_on (σ : sw_St) : Option (Int32 × sw_St) :=
  (F_X11_isImage (sw_uI σ 0 1 0) (σ.1 0 1)).bind fun q1 => if q1.1 = 0 then (some (0, (sw_uI q1.2 2 5 ((q1.2.1 2 5) + 1)))) else ((F_X11_gapMany q1.2 ).bind fun q2 => (F_X11_fieldMany q2.2 ).bind fun q3 => (F_X11_twoAt q3.2 0).bind fun q4 => if sw_inb 0 245 = true then ((F_X11_twoAt (sw_uI q4.2 37 (0 : Int32).toNatClampNeg q4.1) 3).bind fun q6 => if sw_inb 1 245 = true then (L_X11_on_80 sw_fuel (sw_uI q6.2 37 (1 : Int32).toNatClampNeg ((65536 * (q4.2.1 1 2)) + q6.1)) (5 + q2.1) (5 + q3.1) 0) else none) else none)
theorem FC_X11_on {E : sw_E} {d : Nat} (hd : 4 ≤ d) {p : Int32 × sw_St} {σ : sw_St} (h : F_X11_on σ  = some p) : sw_KI E sw_gM m_X11_on d [.ref 0] σ (fun v s => v = p.1 ∧ s = p.2) := by
  unfold F_X11_on at h
  refine sw_K.of (by decide +kernel) rfl (Nat.le_of_ble_eq_true rfl) ?_
  show sw_W E sw_gM m_X11_on d 0 [(0, .ref 0)] [] σ (sw_pI p)
  obtain ⟨q1, hq, h⟩ := sw_bnd h
  refine B_X11_on_0  (FC_X11_isImage (Nat.le_refl _) hq) (Nat.lt_of_lt_of_le (by decide) hd) (fun v s hvs => ?_)
  obtain ⟨hv1, hv2⟩ := hvs; subst hv1; subst hv2
  refine B_X11_on_15  (fun hc => ?_) (fun hc => ?_)
  · rw [if_neg hc] at h
    obtain ⟨q2, hq, h⟩ := sw_bnd h
    refine B_X11_on_30  (FC_X11_gapMany (Nat.le_refl _) hq) (Nat.lt_of_lt_of_le (by decide) hd) (fun v s hvs => ?_)
    obtain ⟨hv1, hv2⟩ := hvs; subst hv1; subst hv2
    obtain ⟨q3, hq, h⟩ := sw_bnd h
    refine B_X11_on_35  (FC_X11_fieldMany (Nat.le_refl _) hq) (Nat.lt_of_lt_of_le (by decide) hd) (fun v s hvs => ?_)
    obtain ⟨hv1, hv2⟩ := hvs; subst hv1; subst hv2
    obtain ⟨q4, hq, h⟩ := sw_bnd h
    refine B_X11_on_42  (FC_X11_twoAt (Nat.le_refl _) hq) (Nat.lt_of_lt_of_le (by decide) hd) (fun v s hvs => ?_)
    obtain ⟨hv1, hv2⟩ := hvs; subst hv1; subst hv2
    obtain ⟨o5, h⟩ := sw_ifs h
    obtain ⟨q6, hq, h⟩ := sw_bnd h
    refine B_X11_on_54 (sw_inb_sp o5) (FC_X11_twoAt (Nat.le_refl _) hq) (Nat.lt_of_lt_of_le (by decide) hd) (fun v s hvs => ?_)
    obtain ⟨hv1, hv2⟩ := hvs; subst hv1; subst hv2
    obtain ⟨o7, h⟩ := sw_ifs h
    refine B_X11_on_75 (sw_inb_sp o7) ?_
    exact LC_X11_on_80 hd _ _ _ _ _ h
  · rw [if_pos hc] at h
    cases h
    exact B_X11_on_18  ⟨_, rfl, rfl, rfl⟩
/-! StrayWoolModel.status(I)I -/
noncomputable def S_X11_status_22 (σ : sw_St) (sx0 : Int32) : Option (Int32 × sw_St) :=
  some (sx0, σ)
theorem SC_X11_status_22 {E : sw_E} {d : Nat} (hd : 1 ≤ d) {p : Int32 × sw_St} {σ : sw_St} {sx0 : Int32} (h : S_X11_status_22 σ sx0 = some p) : sw_W E sw_gM m_X11_status d 22 [] [.int sx0] σ (sw_pI p) := by
  unfold S_X11_status_22 at h
  cases h
  exact B_X11_status_22  ⟨_, rfl, rfl, rfl⟩
noncomputable def F_X11_status (σ : sw_St) (x1 : Int32) : Option (Int32 × sw_St) :=
  (F_X11_isIn σ x1.toInt64 0 5).bind fun q1 => if q1.1 = 0 then (S_X11_status_22 q1.2 (-1)) else (if sw_inb x1 6 = true then (S_X11_status_22 q1.2 (q1.2.1 2 x1.toNatClampNeg)) else none)
theorem FC_X11_status {E : sw_E} {d : Nat} (hd : 1 ≤ d) {p : Int32 × sw_St} {σ : sw_St} {x1 : Int32} (h : F_X11_status σ x1 = some p) : sw_KI E sw_gM m_X11_status d [.ref 0, .int x1] σ (fun v s => v = p.1 ∧ s = p.2) := by
  unfold F_X11_status at h
  refine sw_K.of (by decide +kernel) rfl (Nat.le_of_ble_eq_true rfl) ?_
  show sw_W E sw_gM m_X11_status d 0 [(0, .ref 0), (1, .int x1)] [] σ (sw_pI p)
  obtain ⟨q1, hq, h⟩ := sw_bnd h
  refine B_X11_status_0  (FC_X11_isIn (Nat.le_refl _) hq) (Nat.lt_of_lt_of_le (by decide) hd) (fun v s hvs => ?_)
  obtain ⟨hv1, hv2⟩ := hvs; subst hv1; subst hv2
  refine B_X11_status_9  (fun hc => ?_) (fun hc => ?_)
  · rw [if_pos hc] at h
    refine B_X11_status_21  ?_
    exact SC_X11_status_22 hd h
  · rw [if_neg hc] at h
    obtain ⟨o2, h⟩ := sw_ifs h
    refine B_X11_status_12 (sw_inb_sp o2) ?_
    exact SC_X11_status_22 hd h
/-! StrayWoolModel.codesTell(II)J -/
noncomputable def S_X11_codesTell_149 (c24 : sw_St → Int32 → Int32 → Int32 → Option (Int64 × sw_St)) (σ : sw_St) (x1 : Int32) (x2 : Int32) (x3 : Int32) : Option (Int64 × sw_St) :=
  c24 σ x1 x2 (x3 + 1)
theorem SC_X11_codesTell_149 {E : sw_E} {d : Nat} (hd : 2 ≤ d) {p : Int64 × sw_St} {c24 : sw_St → Int32 → Int32 → Int32 → Option (Int64 × sw_St)} (h24 : ∀ (σ : sw_St) (x1 : Int32) (x2 : Int32) (x3 : Int32), c24 σ x1 x2 x3 = some p → sw_W E sw_gM m_X11_codesTell d 24 [(0, .ref 0), (1, .int x1), (2, .int x2), (3, .int x3)] [] σ (sw_pL p)) {σ : sw_St} {x1 : Int32} {x2 : Int32} {x3 : Int32} (h : S_X11_codesTell_149 c24 σ x1 x2 x3 = some p) : sw_W E sw_gM m_X11_codesTell d 149 [(0, .ref 0), (1, .int x1), (2, .int x2), (3, .int x3)] [] σ (sw_pL p) := by
  unfold S_X11_codesTell_149 at h
  refine B_X11_codesTell_149  ?_
  exact h24 _ _ _ _ h
noncomputable def S_X11_codesTell_24 (c24 : sw_St → Int32 → Int32 → Int32 → Option (Int64 × sw_St)) (σ : sw_St) (x1 : Int32) (x2 : Int32) (x3 : Int32) : Option (Int64 × sw_St) :=
  if sw_inb (3 + x1) 6 = true then (if (σ.1 35 ((3 + x1).toNatClampNeg)) ≤ x3 then (some (σ.2.1 73 0, σ)) else (if sw_inb (1600 + x3) 3200 = true then (if (σ.1 36 ((1600 + x3).toNatClampNeg)) < 1000 then (if (σ.1 36 ((1600 + x3).toNatClampNeg)) < 40 then (if (σ.1 36 ((1600 + x3).toNatClampNeg)) = 13 then ((F_X11_qPuts σ 1).bind fun q6 => S_X11_codesTell_149 c24 q6.2 x1 x2 x3) else (if (σ.1 36 ((1600 + x3).toNatClampNeg)) = 12 then (if sw_inb ((σ.1 0 101) - 1) 1700 = true then (if sw_inb ((σ.1 0 101) - 1) 1700 = true then (S_X11_codesTell_149 c24 (sw_uL σ 73 (((σ.1 0 101) - 1).toNatClampNeg) (1 - (σ.2.1 73 (((σ.1 0 101) - 1).toNatClampNeg)))) x1 x2 x3) else none) else none) else ((F_X11_qJoins σ (σ.1 36 ((1600 + x3).toNatClampNeg))).bind fun q3 => S_X11_codesTell_149 c24 q3.2 x1 x2 x3))) else ((F_X11_qPartOf σ ((σ.1 36 ((1600 + x3).toNatClampNeg)) - 40) x2).bind fun q7 => (F_X11_qPuts q7.2 q7.1).bind fun q8 => S_X11_codesTell_149 c24 q8.2 x1 x2 x3)) else ((F_X11_qPuts σ (((σ.1 36 ((1600 + x3).toNatClampNeg)) - 1000).toInt64)).bind fun q9 => S_X11_codesTell_149 c24 q9.2 x1 x2 x3)) else none)) else none
theorem SC_X11_codesTell_24 {E : sw_E} {d : Nat} (hd : 2 ≤ d) {p : Int64 × sw_St} {c24 : sw_St → Int32 → Int32 → Int32 → Option (Int64 × sw_St)} (h24 : ∀ (σ : sw_St) (x1 : Int32) (x2 : Int32) (x3 : Int32), c24 σ x1 x2 x3 = some p → sw_W E sw_gM m_X11_codesTell d 24 [(0, .ref 0), (1, .int x1), (2, .int x2), (3, .int x3)] [] σ (sw_pL p)) {σ : sw_St} {x1 : Int32} {x2 : Int32} {x3 : Int32} (h : S_X11_codesTell_24 c24 σ x1 x2 x3 = some p) : sw_W E sw_gM m_X11_codesTell d 24 [(0, .ref 0), (1, .int x1), (2, .int x2), (3, .int x3)] [] σ (sw_pL p) := by
  unfold S_X11_codesTell_24 at h
  obtain ⟨o1, h⟩ := sw_ifs h
  refine B_X11_codesTell_24 (sw_inb_sp o1) (fun hc => ?_) (fun hc => ?_)
  · rw [if_pos hc] at h
    cases h
    exact B_X11_codesTell_155  ⟨_, rfl, rfl, rfl⟩
  · rw [if_neg hc] at h
    obtain ⟨o2, h⟩ := sw_ifs h
    refine B_X11_codesTell_36 (sw_inb_sp o2) (fun hc => ?_) (fun hc => ?_)
    · rw [if_pos hc] at h
      refine B_X11_codesTell_70  (fun hc => ?_) (fun hc => ?_)
      · rw [if_pos hc] at h
        refine B_X11_codesTell_94  (fun hc => ?_) (fun hc => ?_)
        · rw [if_neg hc] at h
          refine B_X11_codesTell_109  (fun hc => ?_) (fun hc => ?_)
          · rw [if_neg hc] at h
            obtain ⟨q3, hq, h⟩ := sw_bnd h
            refine B_X11_codesTell_143  (FC_X11_qJoins (Nat.le_refl _) hq) (Nat.lt_of_lt_of_le (by decide) hd) (fun s hvs => ?_)
            subst hvs
            exact SC_X11_codesTell_149 hd h24 h
          · rw [if_pos hc] at h
            obtain ⟨o4, h⟩ := sw_ifs h
            obtain ⟨o5, h⟩ := sw_ifs h
            refine B_X11_codesTell_116 (sw_inb_sp o4) (sw_inb_sp o5) ?_
            exact SC_X11_codesTell_149 hd h24 h
        · rw [if_pos hc] at h
          obtain ⟨q6, hq, h⟩ := sw_bnd h
          refine B_X11_codesTell_101  (FC_X11_qPuts (Nat.le_refl _) hq) (Nat.lt_of_lt_of_le (by decide) hd) (fun s hvs => ?_)
          subst hvs
          refine B_X11_codesTell_106  ?_
          exact SC_X11_codesTell_149 hd h24 h
      · rw [if_neg hc] at h
        obtain ⟨q7, hq, h⟩ := sw_bnd h
        refine B_X11_codesTell_77  (FC_X11_qPartOf (Nat.le_refl _) hq) (Nat.lt_of_lt_of_le (by decide) hd) (fun v s hvs => ?_)
        obtain ⟨hv1, hv2⟩ := hvs; subst hv1; subst hv2
        obtain ⟨q8, hq, h⟩ := sw_bnd h
        refine B_X11_codesTell_88  (FC_X11_qPuts (Nat.le_refl _) hq) (Nat.lt_of_lt_of_le (by decide) hd) (fun s hvs => ?_)
        subst hvs
        refine B_X11_codesTell_91  ?_
        exact SC_X11_codesTell_149 hd h24 h
    · rw [if_neg hc] at h
      obtain ⟨q9, hq, h⟩ := sw_bnd h
      refine B_X11_codesTell_56  (FC_X11_qPuts (Nat.le_refl _) hq) (Nat.lt_of_lt_of_le (by decide) hd) (fun s hvs => ?_)
      subst hvs
      refine B_X11_codesTell_67  ?_
      exact SC_X11_codesTell_149 hd h24 h
noncomputable def L_X11_codesTell_24 : Nat → sw_St → Int32 → Int32 → Int32 → Option (Int64 × sw_St)
  | 0, _, _, _, _ => none
  | k + 1, σ, x1, x2, x3 => S_X11_codesTell_24 (fun σ x1 x2 x3 => L_X11_codesTell_24 k σ x1 x2 x3) σ x1 x2 x3
theorem LC_X11_codesTell_24 {E : sw_E} {d : Nat} (hd : 2 ≤ d) {p : Int64 × sw_St} : ∀ (k : Nat) (σ : sw_St) (x1 : Int32) (x2 : Int32) (x3 : Int32), L_X11_codesTell_24 k σ x1 x2 x3 = some p → sw_W E sw_gM m_X11_codesTell d 24 [(0, .ref 0), (1, .int x1), (2, .int x2), (3, .int x3)] [] σ (sw_pL p) := by
  intro k
  induction k with
  | zero => intro σ x1 x2 x3 h; cases h
  | succ k ih => intro σ x1 x2 x3 h; exact SC_X11_codesTell_24 hd ih h
noncomputable def F_X11_codesTell (σ : sw_St) (x1 : Int32) (x2 : Int32) : Option (Int64 × sw_St) :=
  if sw_inb (3 + x1) 6 = true then (L_X11_codesTell_24 sw_fuel (sw_uI (sw_uI (sw_uI σ 0 54 x2) 0 48 x1) 0 101 0) x1 x2 (σ.1 34 ((3 + x1).toNatClampNeg))) else none
theorem FC_X11_codesTell {E : sw_E} {d : Nat} (hd : 2 ≤ d) {p : Int64 × sw_St} {σ : sw_St} {x1 : Int32} {x2 : Int32} (h : F_X11_codesTell σ x1 x2 = some p) : sw_KL E sw_gM m_X11_codesTell d [.ref 0, .int x1, .int x2] σ (fun v s => v = p.1 ∧ s = p.2) := by
  unfold F_X11_codesTell at h
  refine sw_K.of (by decide +kernel) rfl (Nat.le_of_ble_eq_true rfl) ?_
  show sw_W E sw_gM m_X11_codesTell d 0 [(0, .ref 0), (1, .int x1), (2, .int x2)] [] σ (sw_pL p)
  obtain ⟨o1, h⟩ := sw_ifs h
  refine B_X11_codesTell_0 (sw_inb_sp o1) ?_
  exact LC_X11_codesTell_24 hd _ _ _ _ _ h
/-! StrayWoolModel.luresOf(II)J -/
noncomputable def S_X11_luresOf_59 (σ : sw_St) (sy0 : Int64) : Option (Int64 × sw_St) :=
  some (sy0, σ)
theorem SC_X11_luresOf_59 {E : sw_E} {d : Nat} (hd : 3 ≤ d) {p : Int64 × sw_St} {σ : sw_St} {sy0 : Int64} (h : S_X11_luresOf_59 σ sy0 = some p) : sw_W E sw_gM m_X11_luresOf d 59 [] [.long sy0] σ (sw_pL p) := by
  unfold S_X11_luresOf_59 at h
  cases h
  exact B_X11_luresOf_59  ⟨_, rfl, rfl, rfl⟩
noncomputable def F_X11_luresOf (σ : sw_St) (x1 : Int32) (x2 : Int32) : Option (Int64 × sw_St) :=
  (F_X11_beyond σ x1 x2).bind fun q1 => (F_X11_milesOf (sw_uI q1.2 0 55 q1.1) x2).bind fun q2 => (F_X11_isTold (sw_uI q2.2 0 56 q2.1) 0).bind fun q3 => if q3.1 = 0 then (if sw_inb (8 + (q3.2.1 0 55)) 16 = true then ((F_X11_seenOf q3.2 x1 (q3.2.1 0 55)).bind fun q5 => S_X11_luresOf_59 q5.2 (((q3.2.1 30 ((8 + (q3.2.1 0 55)).toNatClampNeg)) - q5.1).toInt64)) else none) else ((F_X11_codesTell q3.2 0 x1).bind fun q6 => S_X11_luresOf_59 q6.2 q6.1)
theorem FC_X11_luresOf {E : sw_E} {d : Nat} (hd : 3 ≤ d) {p : Int64 × sw_St} {σ : sw_St} {x1 : Int32} {x2 : Int32} (h : F_X11_luresOf σ x1 x2 = some p) : sw_KL E sw_gM m_X11_luresOf d [.ref 0, .int x1, .int x2] σ (fun v s => v = p.1 ∧ s = p.2) := by
  unfold F_X11_luresOf at h
  refine sw_K.of (by decide +kernel) rfl (Nat.le_of_ble_eq_true rfl) ?_
  show sw_W E sw_gM m_X11_luresOf d 0 [(0, .ref 0), (1, .int x1), (2, .int x2)] [] σ (sw_pL p)
  obtain ⟨q1, hq, h⟩ := sw_bnd h
  refine B_X11_luresOf_0  (FC_X11_beyond (Nat.le_refl _) hq) (Nat.lt_of_lt_of_le (by decide) hd) (fun v s hvs => ?_)
  obtain ⟨hv1, hv2⟩ := hvs; subst hv1; subst hv2
  obtain ⟨q2, hq, h⟩ := sw_bnd h
  refine B_X11_luresOf_7  (FC_X11_milesOf (Nat.le_refl _) hq) (Nat.lt_of_lt_of_le (by decide) hd) (fun v s hvs => ?_)
  obtain ⟨hv1, hv2⟩ := hvs; subst hv1; subst hv2
  obtain ⟨q3, hq, h⟩ := sw_bnd h
  refine B_X11_luresOf_16  (FC_X11_isTold (Nat.le_refl _) hq) (Nat.lt_of_lt_of_le (by decide) hd) (fun v s hvs => ?_)
  obtain ⟨hv1, hv2⟩ := hvs; subst hv1; subst hv2
  refine B_X11_luresOf_24  (fun hc => ?_) (fun hc => ?_)
  · rw [if_pos hc] at h
    obtain ⟨o4, h⟩ := sw_ifs h
    obtain ⟨q5, hq, h⟩ := sw_bnd h
    refine B_X11_luresOf_36 (sw_inb_sp o4) (FC_X11_seenOf (Nat.le_refl _) hq) (Nat.lt_of_lt_of_le (by decide) hd) (fun v s hvs => ?_)
    obtain ⟨hv1, hv2⟩ := hvs; subst hv1; subst hv2
    refine B_X11_luresOf_57  ?_
    exact SC_X11_luresOf_59 hd h
  · rw [if_neg hc] at h
    obtain ⟨q6, hq, h⟩ := sw_bnd h
    refine B_X11_luresOf_27  (FC_X11_codesTell (Nat.le_refl _) hq) (Nat.lt_of_lt_of_le (by decide) hd) (fun v s hvs => ?_)
    obtain ⟨hv1, hv2⟩ := hvs; subst hv1; subst hv2
    refine B_X11_luresOf_33  ?_
    exact SC_X11_luresOf_59 hd h
/-! StrayWoolModel.doesStay(I)Z -/
noncomputable def S_X11_doesStay_33 (σ : sw_St) (sx0 : Int32) : Option (Int32 × sw_St) :=
  if sx0 = 0 ∨ sx0 = 1 then some (sx0, σ) else none
theorem SC_X11_doesStay_33 {E : sw_E} {d : Nat} (hd : 3 ≤ d) {p : Int32 × sw_St} {σ : sw_St} {sx0 : Int32} (h : S_X11_doesStay_33 σ sx0 = some p) : sw_W E sw_gM m_X11_doesStay d 33 [] [.int sx0] σ (sw_pI p) := by
  unfold S_X11_doesStay_33 at h
  obtain ⟨hz, h⟩ := sw_ifs h
  cases h
  exact B_X11_doesStay_33  hz ⟨_, rfl, rfl, rfl⟩
noncomputable def S_X11_doesStay_32 (σ : sw_St) : Option (Int32 × sw_St) :=
  S_X11_doesStay_33 σ 0
theorem SC_X11_doesStay_32 {E : sw_E} {d : Nat} (hd : 3 ≤ d) {p : Int32 × sw_St} {σ : sw_St} (h : S_X11_doesStay_32 σ  = some p) : sw_W E sw_gM m_X11_doesStay d 32 [] [] σ (sw_pI p) := by
  unfold S_X11_doesStay_32 at h
  refine B_X11_doesStay_32  ?_
  exact SC_X11_doesStay_33 hd h
noncomputable def F_X11_doesStay (σ : sw_St) (x1 : Int32) : Option (Int32 × sw_St) :=
  (F_X11_fieldOf σ x1).bind fun q1 => (F_X11_isTold (sw_uI q1.2 0 55 q1.1) 1).bind fun q2 => if q2.1 = 0 then (S_X11_doesStay_32 q2.2 ) else ((F_X11_codesTell q2.2 1 x1).bind fun q3 => if (lg_cmp q3.1 1) = 0 then (S_X11_doesStay_33 q3.2 1) else (S_X11_doesStay_32 q3.2 ))
theorem FC_X11_doesStay {E : sw_E} {d : Nat} (hd : 3 ≤ d) {p : Int32 × sw_St} {σ : sw_St} {x1 : Int32} (h : F_X11_doesStay σ x1 = some p) : sw_KI E sw_gM m_X11_doesStay d [.ref 0, .int x1] σ (fun v s => v = p.1 ∧ s = p.2) := by
  unfold F_X11_doesStay at h
  refine sw_K.of (by decide +kernel) rfl (Nat.le_of_ble_eq_true rfl) ?_
  show sw_W E sw_gM m_X11_doesStay d 0 [(0, .ref 0), (1, .int x1)] [] σ (sw_pI p)
  obtain ⟨q1, hq, h⟩ := sw_bnd h
  refine B_X11_doesStay_0  (FC_X11_fieldOf (Nat.le_refl _) hq) (Nat.lt_of_lt_of_le (by decide) hd) (fun v s hvs => ?_)
  obtain ⟨hv1, hv2⟩ := hvs; subst hv1; subst hv2
  obtain ⟨q2, hq, h⟩ := sw_bnd h
  refine B_X11_doesStay_6  (FC_X11_isTold (Nat.le_refl _) hq) (Nat.lt_of_lt_of_le (by decide) hd) (fun v s hvs => ?_)
  obtain ⟨hv1, hv2⟩ := hvs; subst hv1; subst hv2
  refine B_X11_doesStay_14  (fun hc => ?_) (fun hc => ?_)
  · rw [if_pos hc] at h
    exact SC_X11_doesStay_32 hd h
  · rw [if_neg hc] at h
    obtain ⟨q3, hq, h⟩ := sw_bnd h
    refine B_X11_doesStay_17  (FC_X11_codesTell (Nat.le_refl _) hq) (Nat.lt_of_lt_of_le (by decide) hd) (fun v s hvs => ?_)
    obtain ⟨hv1, hv2⟩ := hvs; subst hv1; subst hv2
    refine B_X11_doesStay_23  (fun hc => ?_) (fun hc => ?_)
    · rw [if_neg hc] at h
      exact SC_X11_doesStay_32 hd h
    · rw [if_pos hc] at h
      refine B_X11_doesStay_28  ?_
      exact SC_X11_doesStay_33 hd h
/-! StrayWoolModel.worthOf(I)I -/
noncomputable def S_X11_worthOf_50 (σ : sw_St) (sx0 : Int32) : Option (Int32 × sw_St) :=
  some (sx0, σ)
theorem SC_X11_worthOf_50 {E : sw_E} {d : Nat} (hd : 3 ≤ d) {p : Int32 × sw_St} {σ : sw_St} {sx0 : Int32} (h : S_X11_worthOf_50 σ sx0 = some p) : sw_W E sw_gM m_X11_worthOf d 50 [] [.int sx0] σ (sw_pI p) := by
  unfold S_X11_worthOf_50 at h
  cases h
  exact B_X11_worthOf_50  ⟨_, rfl, rfl, rfl⟩
noncomputable def S_X11_worthOf_23 (σ : sw_St) (sy0 : Int64) : Option (Int32 × sw_St) :=
  if 0 ≤ (lg_cmp sy0 0) then (if (lg_cmp sy0 9999) ≤ 0 then (S_X11_worthOf_50 σ sy0.toInt32) else (S_X11_worthOf_50 σ 9999)) else (S_X11_worthOf_50 σ 0)
theorem SC_X11_worthOf_23 {E : sw_E} {d : Nat} (hd : 3 ≤ d) {p : Int32 × sw_St} {σ : sw_St} {sy0 : Int64} (h : S_X11_worthOf_23 σ sy0 = some p) : sw_W E sw_gM m_X11_worthOf d 23 [] [.long sy0] σ (sw_pI p) := by
  unfold S_X11_worthOf_23 at h
  refine B_X11_worthOf_23  (fun hc => ?_) (fun hc => ?_)
  · rw [if_pos hc] at h
    refine B_X11_worthOf_34  (fun hc => ?_) (fun hc => ?_)
    · rw [if_pos hc] at h
      refine B_X11_worthOf_48  ?_
      exact SC_X11_worthOf_50 hd h
    · rw [if_neg hc] at h
      refine B_X11_worthOf_42  ?_
      exact SC_X11_worthOf_50 hd h
  · rw [if_neg hc] at h
    refine B_X11_worthOf_30  ?_
    exact SC_X11_worthOf_50 hd h
noncomputable def F_X11_worthOf (σ : sw_St) (x1 : Int32) : Option (Int32 × sw_St) :=
  (F_X11_isTold σ 2).bind fun q1 => if q1.1 = 0 then ((F_X11_woolOf q1.2 x1).bind fun q2 => S_X11_worthOf_23 q2.2 q2.1.toInt64) else ((F_X11_codesTell q1.2 2 x1).bind fun q3 => S_X11_worthOf_23 q3.2 q3.1)
theorem FC_X11_worthOf {E : sw_E} {d : Nat} (hd : 3 ≤ d) {p : Int32 × sw_St} {σ : sw_St} {x1 : Int32} (h : F_X11_worthOf σ x1 = some p) : sw_KI E sw_gM m_X11_worthOf d [.ref 0, .int x1] σ (fun v s => v = p.1 ∧ s = p.2) := by
  unfold F_X11_worthOf at h
  refine sw_K.of (by decide +kernel) rfl (Nat.le_of_ble_eq_true rfl) ?_
  show sw_W E sw_gM m_X11_worthOf d 0 [(0, .ref 0), (1, .int x1)] [] σ (sw_pI p)
  obtain ⟨q1, hq, h⟩ := sw_bnd h
  refine B_X11_worthOf_0  (FC_X11_isTold (Nat.le_refl _) hq) (Nat.lt_of_lt_of_le (by decide) hd) (fun v s hvs => ?_)
  obtain ⟨hv1, hv2⟩ := hvs; subst hv1; subst hv2
  refine B_X11_worthOf_5  (fun hc => ?_) (fun hc => ?_)
  · rw [if_pos hc] at h
    obtain ⟨q2, hq, h⟩ := sw_bnd h
    refine B_X11_worthOf_17  (FC_X11_woolOf (Nat.le_refl _) hq) (Nat.lt_of_lt_of_le (by decide) hd) (fun v s hvs => ?_)
    obtain ⟨hv1, hv2⟩ := hvs; subst hv1; subst hv2
    refine B_X11_worthOf_22  ?_
    exact SC_X11_worthOf_23 hd h
  · rw [if_neg hc] at h
    obtain ⟨q3, hq, h⟩ := sw_bnd h
    refine B_X11_worthOf_8  (FC_X11_codesTell (Nat.le_refl _) hq) (Nat.lt_of_lt_of_le (by decide) hd) (fun v s hvs => ?_)
    obtain ⟨hv1, hv2⟩ := hvs; subst hv1; subst hv2
    refine B_X11_worthOf_14  ?_
    exact SC_X11_worthOf_23 hd h
/-! StrayWoolModel.gapFor(I)I -/
noncomputable def S_X11_gapFor_66 (c17 : sw_St → Int32 → Int32 → Int64 → Int32 → Option (Int32 × sw_St)) (σ : sw_St) (x1 : Int32) (x2 : Int32) (y3 : Int64) (x5 : Int32) : Option (Int32 × sw_St) :=
  c17 σ x1 x2 y3 (x5 + 1)
theorem SC_X11_gapFor_66 {E : sw_E} {d : Nat} (hd : 4 ≤ d) {p : Int32 × sw_St} {c17 : sw_St → Int32 → Int32 → Int64 → Int32 → Option (Int32 × sw_St)} (h17 : ∀ (σ : sw_St) (x1 : Int32) (x2 : Int32) (y3 : Int64) (x5 : Int32), c17 σ x1 x2 y3 x5 = some p → sw_W E sw_gM m_X11_gapFor d 17 [(0, .ref 0), (1, .int x1), (2, .int x2), (3, .long y3), (5, .int x5)] [] σ (sw_pI p)) {σ : sw_St} {x1 : Int32} {x2 : Int32} {y3 : Int64} {x5 : Int32} (h : S_X11_gapFor_66 c17 σ x1 x2 y3 x5 = some p) : sw_W E sw_gM m_X11_gapFor d 66 [(0, .ref 0), (1, .int x1), (2, .int x2), (3, .long y3), (5, .int x5)] [] σ (sw_pI p) := by
  unfold S_X11_gapFor_66 at h
  refine B_X11_gapFor_66  ?_
  exact h17 _ _ _ _ _ h
noncomputable def S_X11_gapFor_48 (c17 : sw_St → Int32 → Int32 → Int64 → Int32 → Option (Int32 × sw_St)) (σ : sw_St) (x1 : Int32) (x2 : Int32) (y3 : Int64) (x5 : Int32) (sy0 : Int64) : Option (Int32 × sw_St) :=
  if 0 < (lg_cmp sy0 y3) then (S_X11_gapFor_66 c17 σ x1 x5 sy0 x5) else (S_X11_gapFor_66 c17 σ x1 x2 y3 x5)
theorem SC_X11_gapFor_48 {E : sw_E} {d : Nat} (hd : 4 ≤ d) {p : Int32 × sw_St} {c17 : sw_St → Int32 → Int32 → Int64 → Int32 → Option (Int32 × sw_St)} (h17 : ∀ (σ : sw_St) (x1 : Int32) (x2 : Int32) (y3 : Int64) (x5 : Int32), c17 σ x1 x2 y3 x5 = some p → sw_W E sw_gM m_X11_gapFor d 17 [(0, .ref 0), (1, .int x1), (2, .int x2), (3, .long y3), (5, .int x5)] [] σ (sw_pI p)) {σ : sw_St} {x1 : Int32} {x2 : Int32} {y3 : Int64} {x5 : Int32} {sy0 : Int64} (h : S_X11_gapFor_48 c17 σ x1 x2 y3 x5 sy0 = some p) : sw_W E sw_gM m_X11_gapFor d 48 [(0, .ref 0), (1, .int x1), (2, .int x2), (3, .long y3), (5, .int x5)] [.long sy0] σ (sw_pI p) := by
  unfold S_X11_gapFor_48 at h
  refine B_X11_gapFor_48  (fun hc => ?_) (fun hc => ?_)
  · rw [if_pos hc] at h
    refine B_X11_gapFor_60  ?_
    exact SC_X11_gapFor_66 hd h17 h
  · rw [if_neg hc] at h
    refine B_X11_gapFor_57  ?_
    exact SC_X11_gapFor_66 hd h17 h
noncomputable def S_X11_gapFor_17 (c17 : sw_St → Int32 → Int32 → Int64 → Int32 → Option (Int32 × sw_St)) (σ : sw_St) (x1 : Int32) (x2 : Int32) (y3 : Int64) (x5 : Int32) : Option (Int32 × sw_St) :=
  (F_X11_gapMany σ ).bind fun q1 => if q1.1 ≤ x5 then (some (x2, q1.2)) else ((F_X11_beyond q1.2 x1 x5).bind fun q2 => if q2.1 = (-1) then (S_X11_gapFor_48 c17 q2.2 x1 x2 y3 x5 0) else ((F_X11_luresOf q2.2 x1 x5).bind fun q3 => S_X11_gapFor_48 c17 q3.2 x1 x2 y3 x5 q3.1))
theorem SC_X11_gapFor_17 {E : sw_E} {d : Nat} (hd : 4 ≤ d) {p : Int32 × sw_St} {c17 : sw_St → Int32 → Int32 → Int64 → Int32 → Option (Int32 × sw_St)} (h17 : ∀ (σ : sw_St) (x1 : Int32) (x2 : Int32) (y3 : Int64) (x5 : Int32), c17 σ x1 x2 y3 x5 = some p → sw_W E sw_gM m_X11_gapFor d 17 [(0, .ref 0), (1, .int x1), (2, .int x2), (3, .long y3), (5, .int x5)] [] σ (sw_pI p)) {σ : sw_St} {x1 : Int32} {x2 : Int32} {y3 : Int64} {x5 : Int32} (h : S_X11_gapFor_17 c17 σ x1 x2 y3 x5 = some p) : sw_W E sw_gM m_X11_gapFor d 17 [(0, .ref 0), (1, .int x1), (2, .int x2), (3, .long y3), (5, .int x5)] [] σ (sw_pI p) := by
  unfold S_X11_gapFor_17 at h
  obtain ⟨q1, hq, h⟩ := sw_bnd h
  refine B_X11_gapFor_17  (FC_X11_gapMany (Nat.le_refl _) hq) (Nat.lt_of_lt_of_le (by decide) hd) (fun v s hvs => ?_)
  obtain ⟨hv1, hv2⟩ := hvs; subst hv1; subst hv2
  refine B_X11_gapFor_23  (fun hc => ?_) (fun hc => ?_)
  · rw [if_pos hc] at h
    cases h
    exact B_X11_gapFor_72  ⟨_, rfl, rfl, rfl⟩
  · rw [if_neg hc] at h
    obtain ⟨q2, hq, h⟩ := sw_bnd h
    refine B_X11_gapFor_26  (FC_X11_beyond (Nat.le_refl _) hq) (Nat.lt_of_lt_of_le (by decide) hd) (fun v s hvs => ?_)
    obtain ⟨hv1, hv2⟩ := hvs; subst hv1; subst hv2
    refine B_X11_gapFor_33  (fun hc => ?_) (fun hc => ?_)
    · rw [if_neg hc] at h
      obtain ⟨q3, hq, h⟩ := sw_bnd h
      refine B_X11_gapFor_41  (FC_X11_luresOf (Nat.le_refl _) hq) (Nat.lt_of_lt_of_le (by decide) hd) (fun v s hvs => ?_)
      obtain ⟨hv1, hv2⟩ := hvs; subst hv1; subst hv2
      exact SC_X11_gapFor_48 hd h17 h
    · rw [if_pos hc] at h
      refine B_X11_gapFor_37  ?_
      exact SC_X11_gapFor_48 hd h17 h
noncomputable def L_X11_gapFor_17 : Nat → sw_St → Int32 → Int32 → Int64 → Int32 → Option (Int32 × sw_St)
  | 0, _, _, _, _, _ => none
  | k + 1, σ, x1, x2, y3, x5 => S_X11_gapFor_17 (fun σ x1 x2 y3 x5 => L_X11_gapFor_17 k σ x1 x2 y3 x5) σ x1 x2 y3 x5
theorem LC_X11_gapFor_17 {E : sw_E} {d : Nat} (hd : 4 ≤ d) {p : Int32 × sw_St} : ∀ (k : Nat) (σ : sw_St) (x1 : Int32) (x2 : Int32) (y3 : Int64) (x5 : Int32), L_X11_gapFor_17 k σ x1 x2 y3 x5 = some p → sw_W E sw_gM m_X11_gapFor d 17 [(0, .ref 0), (1, .int x1), (2, .int x2), (3, .long y3), (5, .int x5)] [] σ (sw_pI p) := by
  intro k
  induction k with
  | zero => intro σ x1 x2 y3 x5 h; cases h
  | succ k ih => intro σ x1 x2 y3 x5 h; exact SC_X11_gapFor_17 hd ih h
noncomputable def F_X11_gapFor (σ : sw_St) (x1 : Int32) : Option (Int32 × sw_St) :=
  (F_X11_doesStay σ x1).bind fun q1 => if q1.1 = 0 then (L_X11_gapFor_17 sw_fuel q1.2 x1 (-1) 0 0) else (some ((-1), q1.2))
theorem FC_X11_gapFor {E : sw_E} {d : Nat} (hd : 4 ≤ d) {p : Int32 × sw_St} {σ : sw_St} {x1 : Int32} (h : F_X11_gapFor σ x1 = some p) : sw_KI E sw_gM m_X11_gapFor d [.ref 0, .int x1] σ (fun v s => v = p.1 ∧ s = p.2) := by
  unfold F_X11_gapFor at h
  refine sw_K.of (by decide +kernel) rfl (Nat.le_of_ble_eq_true rfl) ?_
  show sw_W E sw_gM m_X11_gapFor d 0 [(0, .ref 0), (1, .int x1)] [] σ (sw_pI p)
  obtain ⟨q1, hq, h⟩ := sw_bnd h
  refine B_X11_gapFor_0  (FC_X11_doesStay (Nat.le_refl _) hq) (Nat.lt_of_lt_of_le (by decide) hd) (fun v s hvs => ?_)
  obtain ⟨hv1, hv2⟩ := hvs; subst hv1; subst hv2
  refine B_X11_gapFor_5  (fun hc => ?_) (fun hc => ?_)
  · rw [if_pos hc] at h
    refine B_X11_gapFor_10  ?_
    exact LC_X11_gapFor_17 hd _ _ _ _ _ _ h
  · rw [if_neg hc] at h
    cases h
    exact B_X11_gapFor_8  ⟨_, rfl, rfl, rfl⟩
/-! StrayWoolModel.sheepGoes(I)V -/
noncomputable def F_X11_sheepGoes (σ : sw_St) (x1 : Int32) : Option (Unit × sw_St) :=
  (F_X11_gapFor σ x1).bind fun q1 => if q1.1 = (-1) then (some ((), q1.2)) else ((F_X11_goesThrough q1.2 x1 q1.1).bind fun q2 => (F_X11_isKept (sw_uI q2.2 0 59 ((q2.2.1 0 59) + 1)) x1 q1.1).bind fun q3 => some ((), q3.2))
theorem FC_X11_sheepGoes {E : sw_E} {d : Nat} (hd : 5 ≤ d) {p : Unit × sw_St} {σ : sw_St} {x1 : Int32} (h : F_X11_sheepGoes σ x1 = some p) : sw_KV E sw_gM m_X11_sheepGoes d [.ref 0, .int x1] σ (fun s => s = p.2) := by
  unfold F_X11_sheepGoes at h
  refine sw_K.of (by decide +kernel) rfl (Nat.le_of_ble_eq_true rfl) ?_
  show sw_W E sw_gM m_X11_sheepGoes d 0 [(0, .ref 0), (1, .int x1)] [] σ (sw_pV p)
  obtain ⟨q1, hq, h⟩ := sw_bnd h
  refine B_X11_sheepGoes_0  (FC_X11_gapFor (Nat.le_refl _) hq) (Nat.lt_of_lt_of_le (by decide) hd) (fun v s hvs => ?_)
  obtain ⟨hv1, hv2⟩ := hvs; subst hv1; subst hv2
  refine B_X11_sheepGoes_5  (fun hc => ?_) (fun hc => ?_)
  · rw [if_neg hc] at h
    obtain ⟨q2, hq, h⟩ := sw_bnd h
    refine B_X11_sheepGoes_12  (FC_X11_goesThrough (Nat.le_refl _) hq) (Nat.lt_of_lt_of_le (by decide) hd) (fun s hvs => ?_)
    subst hvs
    obtain ⟨q3, hq, h⟩ := sw_bnd h
    refine B_X11_sheepGoes_18  (FC_X11_isKept (Nat.le_refl _) hq) (Nat.lt_of_lt_of_le (by decide) hd) (fun s hvs => ?_)
    subst hvs
    cases h
    exact B_X11_sheepGoes_34  ⟨rfl, rfl⟩
  · rw [if_pos hc] at h
    cases h
    exact B_X11_sheepGoes_11  ⟨rfl, rfl⟩
/-! StrayWoolModel.dayGoes()V -/
noncomputable def S_X11_dayGoes_2 (c2 : sw_St → Int32 → Option (Unit × sw_St)) (σ : sw_St) (x1 : Int32) : Option (Unit × sw_St) :=
  (F_X11_sheepMany σ ).bind fun q1 => if q1.1 ≤ x1 then (some ((), (sw_uI q1.2 37 0 ((q1.2.1 37 0) + 1)))) else ((F_X11_sheepGoes q1.2 x1).bind fun q2 => c2 q2.2 (x1 + 1))
theorem SC_X11_dayGoes_2 {E : sw_E} {d : Nat} (hd : 6 ≤ d) {p : Unit × sw_St} {c2 : sw_St → Int32 → Option (Unit × sw_St)} (h2 : ∀ (σ : sw_St) (x1 : Int32), c2 σ x1 = some p → sw_W E sw_gM m_X11_dayGoes d 2 [(0, .ref 0), (1, .int x1)] [] σ (sw_pV p)) {σ : sw_St} {x1 : Int32} (h : S_X11_dayGoes_2 c2 σ x1 = some p) : sw_W E sw_gM m_X11_dayGoes d 2 [(0, .ref 0), (1, .int x1)] [] σ (sw_pV p) := by
  unfold S_X11_dayGoes_2 at h
  obtain ⟨q1, hq, h⟩ := sw_bnd h
  refine B_X11_dayGoes_2  (FC_X11_sheepMany (Nat.le_refl _) hq) (Nat.lt_of_lt_of_le (by decide) hd) (fun v s hvs => ?_)
  obtain ⟨hv1, hv2⟩ := hvs; subst hv1; subst hv2
  refine B_X11_dayGoes_7  (fun hc => ?_) (fun hc => ?_)
  · rw [if_pos hc] at h
    cases h
    exact B_X11_dayGoes_21  ⟨rfl, rfl⟩
  · rw [if_neg hc] at h
    obtain ⟨q2, hq, h⟩ := sw_bnd h
    refine B_X11_dayGoes_10  (FC_X11_sheepGoes (Nat.le_refl _) hq) (Nat.lt_of_lt_of_le (by decide) hd) (fun s hvs => ?_)
    subst hvs
    refine B_X11_dayGoes_15  ?_
    exact h2 _ _ h
noncomputable def L_X11_dayGoes_2 : Nat → sw_St → Int32 → Option (Unit × sw_St)
  | 0, _, _ => none
  | k + 1, σ, x1 => S_X11_dayGoes_2 (fun σ x1 => L_X11_dayGoes_2 k σ x1) σ x1
theorem LC_X11_dayGoes_2 {E : sw_E} {d : Nat} (hd : 6 ≤ d) {p : Unit × sw_St} : ∀ (k : Nat) (σ : sw_St) (x1 : Int32), L_X11_dayGoes_2 k σ x1 = some p → sw_W E sw_gM m_X11_dayGoes d 2 [(0, .ref 0), (1, .int x1)] [] σ (sw_pV p) := by
  intro k
  induction k with
  | zero => intro σ x1 h; cases h
  | succ k ih => intro σ x1 h; exact SC_X11_dayGoes_2 hd ih h
noncomputable def F_X11_dayGoes (σ : sw_St) : Option (Unit × sw_St) :=
  L_X11_dayGoes_2 sw_fuel σ 0
theorem FC_X11_dayGoes {E : sw_E} {d : Nat} (hd : 6 ≤ d) {p : Unit × sw_St} {σ : sw_St} (h : F_X11_dayGoes σ  = some p) : sw_KV E sw_gM m_X11_dayGoes d [.ref 0] σ (fun s => s = p.2) := by
  unfold F_X11_dayGoes at h
  refine sw_K.of (by decide +kernel) rfl (Nat.le_of_ble_eq_true rfl) ?_
  show sw_W E sw_gM m_X11_dayGoes d 0 [(0, .ref 0)] [] σ (sw_pV p)
  refine B_X11_dayGoes_0  ?_
  exact LC_X11_dayGoes_2 hd _ _ _ h
/-! StrayWoolModel.daysGo(I)V -/
noncomputable def S_X11_daysGo_2 (c2 : sw_St → Int32 → Int32 → Option (Unit × sw_St)) (σ : sw_St) (x1 : Int32) (x2 : Int32) : Option (Unit × sw_St) :=
  if x1 ≤ x2 then (some ((), σ)) else ((F_X11_dayGoes σ ).bind fun q1 => c2 q1.2 x1 (x2 + 1))
theorem SC_X11_daysGo_2 {E : sw_E} {d : Nat} (hd : 7 ≤ d) {p : Unit × sw_St} {c2 : sw_St → Int32 → Int32 → Option (Unit × sw_St)} (h2 : ∀ (σ : sw_St) (x1 : Int32) (x2 : Int32), c2 σ x1 x2 = some p → sw_W E sw_gM m_X11_daysGo d 2 [(0, .ref 0), (1, .int x1), (2, .int x2)] [] σ (sw_pV p)) {σ : sw_St} {x1 : Int32} {x2 : Int32} (h : S_X11_daysGo_2 c2 σ x1 x2 = some p) : sw_W E sw_gM m_X11_daysGo d 2 [(0, .ref 0), (1, .int x1), (2, .int x2)] [] σ (sw_pV p) := by
  unfold S_X11_daysGo_2 at h
  refine B_X11_daysGo_2  (fun hc => ?_) (fun hc => ?_)
  · rw [if_pos hc] at h
    cases h
    exact B_X11_daysGo_17  ⟨rfl, rfl⟩
  · rw [if_neg hc] at h
    obtain ⟨q1, hq, h⟩ := sw_bnd h
    refine B_X11_daysGo_7  (FC_X11_dayGoes (Nat.le_refl _) hq) (Nat.lt_of_lt_of_le (by decide) hd) (fun s hvs => ?_)
    subst hvs
    refine B_X11_daysGo_11  ?_
    exact h2 _ _ _ h
noncomputable def L_X11_daysGo_2 : Nat → sw_St → Int32 → Int32 → Option (Unit × sw_St)
  | 0, _, _, _ => none
  | k + 1, σ, x1, x2 => S_X11_daysGo_2 (fun σ x1 x2 => L_X11_daysGo_2 k σ x1 x2) σ x1 x2
theorem LC_X11_daysGo_2 {E : sw_E} {d : Nat} (hd : 7 ≤ d) {p : Unit × sw_St} : ∀ (k : Nat) (σ : sw_St) (x1 : Int32) (x2 : Int32), L_X11_daysGo_2 k σ x1 x2 = some p → sw_W E sw_gM m_X11_daysGo d 2 [(0, .ref 0), (1, .int x1), (2, .int x2)] [] σ (sw_pV p) := by
  intro k
  induction k with
  | zero => intro σ x1 x2 h; cases h
  | succ k ih => intro σ x1 x2 h; exact SC_X11_daysGo_2 hd ih h
noncomputable def F_X11_daysGo (σ : sw_St) (x1 : Int32) : Option (Unit × sw_St) :=
  L_X11_daysGo_2 sw_fuel σ x1 0
theorem FC_X11_daysGo {E : sw_E} {d : Nat} (hd : 7 ≤ d) {p : Unit × sw_St} {σ : sw_St} {x1 : Int32} (h : F_X11_daysGo σ x1 = some p) : sw_KV E sw_gM m_X11_daysGo d [.ref 0, .int x1] σ (fun s => s = p.2) := by
  unfold F_X11_daysGo at h
  refine sw_K.of (by decide +kernel) rfl (Nat.le_of_ble_eq_true rfl) ?_
  show sw_W E sw_gM m_X11_daysGo d 0 [(0, .ref 0), (1, .int x1)] [] σ (sw_pV p)
  refine B_X11_daysGo_0  ?_
  exact LC_X11_daysGo_2 hd _ _ _ _ h

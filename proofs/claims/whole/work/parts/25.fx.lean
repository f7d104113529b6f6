/-! StrayWool$Code.emit(I)V -/
noncomputable def S_X0_emit_32 (σ : sw_St) : Option (Unit × sw_St) :=
  some ((), σ)
theorem SC_X0_emit_32 {E : sw_E} {d : Nat} (hd : 0 ≤ d) {p : Unit × sw_St} {σ : sw_St} (h : S_X0_emit_32 σ  = some p) : sw_W E sw_gX m_X0_emit d 32 [] [] σ (sw_pV p) := by
  unfold S_X0_emit_32 at h
  cases h
  exact B_X0_emit_32  ⟨rfl, rfl⟩
noncomputable def F_X0_emit (σ : sw_St) (o0 : Nat) (x1 : Int32) : Option (Unit × sw_St) :=
  if sw_isO sw_gX o0 0 = true then (if sw_isO sw_gX o0 0 = true then (if (sw_isA sw_gX (o0 + 1) 0 || sw_isA sw_gX (o0 + 1) 1 || sw_isA sw_gX (o0 + 1) 2 || sw_isA sw_gX (o0 + 1) 3) = true then (if (nI (sw_ln sw_gX (o0 + 1))) ≤ (σ.1 o0 1) then (S_X0_emit_32 σ ) else (if sw_isO sw_gX o0 0 = true then (if sw_isO sw_gX o0 0 = true then (if sw_isA sw_gX (o0 + 1) 0 = true then (if sw_inb (σ.1 o0 1) (sw_ln sw_gX (o0 + 1)) = true then (if sw_isO sw_gX o0 0 = true then (if sw_isO sw_gX o0 0 = true then (S_X0_emit_32 (sw_uI (sw_uI σ (o0 + 1) ((σ.1 o0 1).toNatClampNeg) x1) o0 1 (((sw_uI σ (o0 + 1) ((σ.1 o0 1).toNatClampNeg) x1).1 o0 1) + 1)) ) else none) else none) else none) else none) else none) else none)) else none) else none) else none
theorem FC_X0_emit {E : sw_E} {d : Nat} (hd : 0 ≤ d) {p : Unit × sw_St} {σ : sw_St} {o0 : Nat} {x1 : Int32} (h : F_X0_emit σ o0 x1 = some p) : sw_KV E sw_gX m_X0_emit d [.ref o0, .int x1] σ (fun s => s = p.2) := by
  unfold F_X0_emit at h
  refine sw_K.of (by decide +kernel) rfl (Nat.le_of_ble_eq_true rfl) ?_
  show sw_W E sw_gX m_X0_emit d 0 [(0, .ref o0), (1, .int x1)] [] σ (sw_pV p)
  obtain ⟨o1, h⟩ := sw_ifs h
  obtain ⟨o2, h⟩ := sw_ifs h
  obtain ⟨o3, h⟩ := sw_ifs h
  refine B_X0_emit_0 o1 o2 o3 (fun hc => ?_) (fun hc => ?_)
  · rw [if_pos hc] at h
    exact SC_X0_emit_32 hd h
  · rw [if_neg hc] at h
    obtain ⟨o4, h⟩ := sw_ifs h
    obtain ⟨o5, h⟩ := sw_ifs h
    obtain ⟨o6, h⟩ := sw_ifs h
    obtain ⟨o7, h⟩ := sw_ifs h
    obtain ⟨o8, h⟩ := sw_ifs h
    obtain ⟨o9, h⟩ := sw_ifs h
    refine B_X0_emit_12 o4 o5 o6 (sw_inb_sp o7) o8 o9 ?_
    exact SC_X0_emit_32 hd h
/-! StrayWool$Foresight.shorten(III)V -/
noncomputable def S_X1_shorten_50 (σ : sw_St) : Option (Unit × sw_St) :=
  some ((), σ)
theorem SC_X1_shorten_50 {E : sw_E} {d : Nat} (hd : 0 ≤ d) {p : Unit × sw_St} {σ : sw_St} (h : S_X1_shorten_50 σ  = some p) : sw_W E sw_gX m_X1_shorten d 50 [] [] σ (sw_pV p) := by
  unfold S_X1_shorten_50 at h
  cases h
  exact B_X1_shorten_50  ⟨rfl, rfl⟩
noncomputable def S_X1_shorten_42 (σ : sw_St) (x2 : Int32) (x4 : Int32) : Option (Unit × sw_St) :=
  if sw_inb x2 8 = true then (S_X1_shorten_50 (sw_uI σ 58 x2.toNatClampNeg x4) ) else none
theorem SC_X1_shorten_42 {E : sw_E} {d : Nat} (hd : 0 ≤ d) {p : Unit × sw_St} {σ : sw_St} {x2 : Int32} {x4 : Int32} (h : S_X1_shorten_42 σ x2 x4 = some p) : sw_W E sw_gX m_X1_shorten d 42 [(0, .ref 54), (2, .int x2), (4, .int x4)] [] σ (sw_pV p) := by
  unfold S_X1_shorten_42 at h
  obtain ⟨o1, h⟩ := sw_ifs h
  refine B_X1_shorten_42 (sw_inb_sp o1) ?_
  exact SC_X1_shorten_50 hd h
noncomputable def F_X1_shorten (σ : sw_St) (x1 : Int32) (x2 : Int32) (x3 : Int32) : Option (Unit × sw_St) :=
  if sw_inb x1 8 = true then (if (σ.1 58 x1.toNatClampNeg) = (-1) then (some ((), σ)) else (if sw_inb x1 8 = true then (if sw_inb x2 8 = true then (if (σ.1 58 x2.toNatClampNeg) = (-1) then (S_X1_shorten_42 σ x2 ((σ.1 58 x1.toNatClampNeg) + x3)) else (if sw_inb x2 8 = true then (if (σ.1 58 x2.toNatClampNeg) ≤ ((σ.1 58 x1.toNatClampNeg) + x3) then (S_X1_shorten_50 σ ) else (S_X1_shorten_42 σ x2 ((σ.1 58 x1.toNatClampNeg) + x3))) else none)) else none) else none)) else none
theorem FC_X1_shorten {E : sw_E} {d : Nat} (hd : 0 ≤ d) {p : Unit × sw_St} {σ : sw_St} {x1 : Int32} {x2 : Int32} {x3 : Int32} (h : F_X1_shorten σ x1 x2 x3 = some p) : sw_KV E sw_gX m_X1_shorten d [.ref 54, .int x1, .int x2, .int x3] σ (fun s => s = p.2) := by
  unfold F_X1_shorten at h
  refine sw_K.of (by decide +kernel) rfl (Nat.le_of_ble_eq_true rfl) ?_
  show sw_W E sw_gX m_X1_shorten d 0 [(0, .ref 54), (1, .int x1), (2, .int x2), (3, .int x3)] [] σ (sw_pV p)
  obtain ⟨o1, h⟩ := sw_ifs h
  refine B_X1_shorten_0 (sw_inb_sp o1) (fun hc => ?_) (fun hc => ?_)
  · rw [if_neg hc] at h
    obtain ⟨o2, h⟩ := sw_ifs h
    obtain ⟨o3, h⟩ := sw_ifs h
    refine B_X1_shorten_11 (sw_inb_sp o2) (sw_inb_sp o3) (fun hc => ?_) (fun hc => ?_)
    · rw [if_pos hc] at h
      exact SC_X1_shorten_42 hd h
    · rw [if_neg hc] at h
      obtain ⟨o4, h⟩ := sw_ifs h
      refine B_X1_shorten_31 (sw_inb_sp o4) (fun hc => ?_) (fun hc => ?_)
      · rw [if_pos hc] at h
        exact SC_X1_shorten_50 hd h
      · rw [if_neg hc] at h
        exact SC_X1_shorten_42 hd h
  · rw [if_pos hc] at h
    cases h
    exact B_X1_shorten_10  ⟨rfl, rfl⟩
/-! StrayWool$Foresight.milesOf(I)I -/
noncomputable def S_X1_milesOf_39 (c4 : sw_St → Int32 → Int32 → Int32 → Option (Int32 × sw_St)) (σ : sw_St) (x1 : Int32) (x2 : Int32) (x3 : Int32) : Option (Int32 × sw_St) :=
  c4 σ x1 x2 (x3 + 1)
theorem SC_X1_milesOf_39 {E : sw_E} {d : Nat} (hd : 0 ≤ d) {p : Int32 × sw_St} {c4 : sw_St → Int32 → Int32 → Int32 → Option (Int32 × sw_St)} (h4 : ∀ (σ : sw_St) (x1 : Int32) (x2 : Int32) (x3 : Int32), c4 σ x1 x2 x3 = some p → sw_W E sw_gX m_X1_milesOf d 4 [(0, .ref 54), (1, .int x1), (2, .int x2), (3, .int x3)] [] σ (sw_pI p)) {σ : sw_St} {x1 : Int32} {x2 : Int32} {x3 : Int32} (h : S_X1_milesOf_39 c4 σ x1 x2 x3 = some p) : sw_W E sw_gX m_X1_milesOf d 39 [(0, .ref 54), (1, .int x1), (2, .int x2), (3, .int x3)] [] σ (sw_pI p) := by
  unfold S_X1_milesOf_39 at h
  refine B_X1_milesOf_39  ?_
  exact h4 _ _ _ _ h
noncomputable def S_X1_milesOf_4 (c4 : sw_St → Int32 → Int32 → Int32 → Option (Int32 × sw_St)) (σ : sw_St) (x1 : Int32) (x2 : Int32) (x3 : Int32) : Option (Int32 × sw_St) :=
  (σ.2.2 33 0).bind fun w1 => (if sw_isO sw_gX w1 9 = true then (if (σ.1 w1 3) ≤ x3 then (some (x2, σ)) else (if ((x1 >>> (x3 &&& 31)) &&& 1) = 1 then (if sw_inb x3 6 = true then (S_X1_milesOf_39 c4 σ x1 (x2 + (σ.1 40 x3.toNatClampNeg)) x3) else none) else (S_X1_milesOf_39 c4 σ x1 x2 x3))) else none)
theorem SC_X1_milesOf_4 {E : sw_E} {d : Nat} (hd : 0 ≤ d) {p : Int32 × sw_St} {c4 : sw_St → Int32 → Int32 → Int32 → Option (Int32 × sw_St)} (h4 : ∀ (σ : sw_St) (x1 : Int32) (x2 : Int32) (x3 : Int32), c4 σ x1 x2 x3 = some p → sw_W E sw_gX m_X1_milesOf d 4 [(0, .ref 54), (1, .int x1), (2, .int x2), (3, .int x3)] [] σ (sw_pI p)) {σ : sw_St} {x1 : Int32} {x2 : Int32} {x3 : Int32} (h : S_X1_milesOf_4 c4 σ x1 x2 x3 = some p) : sw_W E sw_gX m_X1_milesOf d 4 [(0, .ref 54), (1, .int x1), (2, .int x2), (3, .int x3)] [] σ (sw_pI p) := by
  unfold S_X1_milesOf_4 at h
  obtain ⟨w1, ow1, h⟩ := sw_bnd h
  obtain ⟨o2, h⟩ := sw_ifs h
  refine B_X1_milesOf_4 ow1 o2 (fun hc => ?_) (fun hc => ?_)
  · rw [if_pos hc] at h
    cases h
    exact B_X1_milesOf_45  ⟨_, rfl, rfl, rfl⟩
  · rw [if_neg hc] at h
    refine B_X1_milesOf_18  (fun hc => ?_) (fun hc => ?_)
    · rw [if_neg hc] at h
      exact SC_X1_milesOf_39 hd h4 h
    · rw [if_pos hc] at h
      obtain ⟨o3, h⟩ := sw_ifs h
      refine B_X1_milesOf_27 (sw_inb_sp o3) ?_
      exact SC_X1_milesOf_39 hd h4 h
noncomputable def L_X1_milesOf_4 : Nat → sw_St → Int32 → Int32 → Int32 → Option (Int32 × sw_St)
  | 0, _, _, _, _ => none
  | k + 1, σ, x1, x2, x3 => S_X1_milesOf_4 (fun σ x1 x2 x3 => L_X1_milesOf_4 k σ x1 x2 x3) σ x1 x2 x3
theorem LC_X1_milesOf_4 {E : sw_E} {d : Nat} (hd : 0 ≤ d) {p : Int32 × sw_St} : ∀ (k : Nat) (σ : sw_St) (x1 : Int32) (x2 : Int32) (x3 : Int32), L_X1_milesOf_4 k σ x1 x2 x3 = some p → sw_W E sw_gX m_X1_milesOf d 4 [(0, .ref 54), (1, .int x1), (2, .int x2), (3, .int x3)] [] σ (sw_pI p) := by
  intro k
  induction k with
  | zero => intro σ x1 x2 x3 h; cases h
  | succ k ih => intro σ x1 x2 x3 h; exact SC_X1_milesOf_4 hd ih h
noncomputable def F_X1_milesOf (σ : sw_St) (x1 : Int32) : Option (Int32 × sw_St) :=
  L_X1_milesOf_4 sw_fuel σ x1 0 0
theorem FC_X1_milesOf {E : sw_E} {d : Nat} (hd : 0 ≤ d) {p : Int32 × sw_St} {σ : sw_St} {x1 : Int32} (h : F_X1_milesOf σ x1 = some p) : sw_KI E sw_gX m_X1_milesOf d [.ref 54, .int x1] σ (fun v s => v = p.1 ∧ s = p.2) := by
  unfold F_X1_milesOf at h
  refine sw_K.of (by decide +kernel) rfl (Nat.le_of_ble_eq_true rfl) ?_
  show sw_W E sw_gX m_X1_milesOf d 0 [(0, .ref 54), (1, .int x1)] [] σ (sw_pI p)
  refine B_X1_milesOf_0  ?_
  exact LC_X1_milesOf_4 hd _ _ _ _ _ h
/-! StrayWool$Foresight.fillNear()V -/
noncomputable def S_X1_fillNear_102 (c35 : sw_St → Nat → Int32 → Option (Unit × sw_St)) (σ : sw_St) (o1 : Nat) (x2 : Int32) : Option (Unit × sw_St) :=
  c35 σ o1 (x2 + 1)
theorem SC_X1_fillNear_102 {E : sw_E} {d : Nat} (hd : 0 ≤ d) {p : Unit × sw_St} {c35 : sw_St → Nat → Int32 → Option (Unit × sw_St)} (h35 : ∀ (σ : sw_St) (o1 : Nat) (x2 : Int32), c35 σ o1 x2 = some p → sw_W E sw_gX m_X1_fillNear d 35 [(0, .ref 54), (1, .ref o1), (2, .int x2)] [] σ (sw_pV p)) {σ : sw_St} {o1 : Nat} {x2 : Int32} (h : S_X1_fillNear_102 c35 σ o1 x2 = some p) : sw_W E sw_gX m_X1_fillNear d 102 [(0, .ref 54), (1, .ref o1), (2, .int x2)] [] σ (sw_pV p) := by
  unfold S_X1_fillNear_102 at h
  refine B_X1_fillNear_102  ?_
  exact h35 _ _ _ h
noncomputable def S_X1_fillNear_35 (c35 : sw_St → Nat → Int32 → Option (Unit × sw_St)) (σ : sw_St) (o1 : Nat) (x2 : Int32) : Option (Unit × sw_St) :=
  if sw_isO sw_gX o1 9 = true then (if (σ.1 o1 2) ≤ x2 then (some ((), σ)) else (if (((σ.1 38 2) >>> (x2 &&& 31)) &&& 1) = 1 then (if sw_isO sw_gX o1 9 = true then (if sw_isA sw_gX (o1 + 3) 0 = true then (if sw_inb x2 (sw_ln sw_gX (o1 + 3)) = true then (if sw_inb (σ.1 (o1 + 3) x2.toNatClampNeg) 8 = true then (if sw_isO sw_gX o1 9 = true then (if sw_isA sw_gX (o1 + 4) 0 = true then (if sw_inb x2 (sw_ln sw_gX (o1 + 4)) = true then (if sw_inb (σ.1 (o1 + 3) x2.toNatClampNeg) 8 = true then (if sw_isO sw_gX o1 9 = true then (if sw_isA sw_gX (o1 + 4) 0 = true then (if sw_inb x2 (sw_ln sw_gX (o1 + 4)) = true then (if sw_inb ((sw_uI σ 59 ((σ.1 (o1 + 3) x2.toNatClampNeg).toNatClampNeg) ((σ.1 59 ((σ.1 (o1 + 3) x2.toNatClampNeg).toNatClampNeg)) ||| ((1 : Int32) <<< ((σ.1 (o1 + 4) x2.toNatClampNeg) &&& 31)))).1 (o1 + 4) x2.toNatClampNeg) 8 = true then (if sw_isO sw_gX o1 9 = true then (if sw_isA sw_gX (o1 + 3) 0 = true then (if sw_inb x2 (sw_ln sw_gX (o1 + 3)) = true then (if sw_inb ((sw_uI σ 59 ((σ.1 (o1 + 3) x2.toNatClampNeg).toNatClampNeg) ((σ.1 59 ((σ.1 (o1 + 3) x2.toNatClampNeg).toNatClampNeg)) ||| ((1 : Int32) <<< ((σ.1 (o1 + 4) x2.toNatClampNeg) &&& 31)))).1 (o1 + 4) x2.toNatClampNeg) 8 = true then (S_X1_fillNear_102 c35 (sw_uI (sw_uI σ 59 ((σ.1 (o1 + 3) x2.toNatClampNeg).toNatClampNeg) ((σ.1 59 ((σ.1 (o1 + 3) x2.toNatClampNeg).toNatClampNeg)) ||| ((1 : Int32) <<< ((σ.1 (o1 + 4) x2.toNatClampNeg) &&& 31)))) 59 (((sw_uI σ 59 ((σ.1 (o1 + 3) x2.toNatClampNeg).toNatClampNeg) ((σ.1 59 ((σ.1 (o1 + 3) x2.toNatClampNeg).toNatClampNeg)) ||| ((1 : Int32) <<< ((σ.1 (o1 + 4) x2.toNatClampNeg) &&& 31)))).1 (o1 + 4) x2.toNatClampNeg).toNatClampNeg) (((sw_uI σ 59 ((σ.1 (o1 + 3) x2.toNatClampNeg).toNatClampNeg) ((σ.1 59 ((σ.1 (o1 + 3) x2.toNatClampNeg).toNatClampNeg)) ||| ((1 : Int32) <<< ((σ.1 (o1 + 4) x2.toNatClampNeg) &&& 31)))).1 59 (((sw_uI σ 59 ((σ.1 (o1 + 3) x2.toNatClampNeg).toNatClampNeg) ((σ.1 59 ((σ.1 (o1 + 3) x2.toNatClampNeg).toNatClampNeg)) ||| ((1 : Int32) <<< ((σ.1 (o1 + 4) x2.toNatClampNeg) &&& 31)))).1 (o1 + 4) x2.toNatClampNeg).toNatClampNeg)) ||| ((1 : Int32) <<< (((sw_uI σ 59 ((σ.1 (o1 + 3) x2.toNatClampNeg).toNatClampNeg) ((σ.1 59 ((σ.1 (o1 + 3) x2.toNatClampNeg).toNatClampNeg)) ||| ((1 : Int32) <<< ((σ.1 (o1 + 4) x2.toNatClampNeg) &&& 31)))).1 (o1 + 3) x2.toNatClampNeg) &&& 31)))) o1 x2) else none) else none) else none) else none) else none) else none) else none) else none) else none) else none) else none) else none) else none) else none) else none) else none) else (S_X1_fillNear_102 c35 σ o1 x2))) else none
theorem SC_X1_fillNear_35 {E : sw_E} {d : Nat} (hd : 0 ≤ d) {p : Unit × sw_St} {c35 : sw_St → Nat → Int32 → Option (Unit × sw_St)} (h35 : ∀ (σ : sw_St) (o1 : Nat) (x2 : Int32), c35 σ o1 x2 = some p → sw_W E sw_gX m_X1_fillNear d 35 [(0, .ref 54), (1, .ref o1), (2, .int x2)] [] σ (sw_pV p)) {σ : sw_St} {o1 : Nat} {x2 : Int32} (h : S_X1_fillNear_35 c35 σ o1 x2 = some p) : sw_W E sw_gX m_X1_fillNear d 35 [(0, .ref 54), (1, .ref o1), (2, .int x2)] [] σ (sw_pV p) := by
  unfold S_X1_fillNear_35 at h
  obtain ⟨o1, h⟩ := sw_ifs h
  refine B_X1_fillNear_35 o1 (fun hc => ?_) (fun hc => ?_)
  · rw [if_pos hc] at h
    cases h
    exact B_X1_fillNear_108  ⟨rfl, rfl⟩
  · rw [if_neg hc] at h
    refine B_X1_fillNear_43  (fun hc => ?_) (fun hc => ?_)
    · rw [if_neg hc] at h
      exact SC_X1_fillNear_102 hd h35 h
    · rw [if_pos hc] at h
      obtain ⟨o2, h⟩ := sw_ifs h
      obtain ⟨o3, h⟩ := sw_ifs h
      obtain ⟨o4, h⟩ := sw_ifs h
      obtain ⟨o5, h⟩ := sw_ifs h
      obtain ⟨o6, h⟩ := sw_ifs h
      obtain ⟨o7, h⟩ := sw_ifs h
      obtain ⟨o8, h⟩ := sw_ifs h
      obtain ⟨o9, h⟩ := sw_ifs h
      obtain ⟨o10, h⟩ := sw_ifs h
      obtain ⟨o11, h⟩ := sw_ifs h
      obtain ⟨o12, h⟩ := sw_ifs h
      obtain ⟨o13, h⟩ := sw_ifs h
      obtain ⟨o14, h⟩ := sw_ifs h
      obtain ⟨o15, h⟩ := sw_ifs h
      obtain ⟨o16, h⟩ := sw_ifs h
      obtain ⟨o17, h⟩ := sw_ifs h
      refine B_X1_fillNear_58 o2 o3 (sw_inb_sp o4) (sw_inb_sp o5) o6 o7 (sw_inb_sp o8) (sw_inb_sp o9) o10 o11 (sw_inb_sp o12) (sw_inb_sp o13) o14 o15 (sw_inb_sp o16) (sw_inb_sp o17) ?_
      exact SC_X1_fillNear_102 hd h35 h
noncomputable def L_X1_fillNear_35 : Nat → sw_St → Nat → Int32 → Option (Unit × sw_St)
  | 0, _, _, _ => none
  | k + 1, σ, o1, x2 => S_X1_fillNear_35 (fun σ o1 x2 => L_X1_fillNear_35 k σ o1 x2) σ o1 x2
theorem LC_X1_fillNear_35 {E : sw_E} {d : Nat} (hd : 0 ≤ d) {p : Unit × sw_St} : ∀ (k : Nat) (σ : sw_St) (o1 : Nat) (x2 : Int32), L_X1_fillNear_35 k σ o1 x2 = some p → sw_W E sw_gX m_X1_fillNear d 35 [(0, .ref 54), (1, .ref o1), (2, .int x2)] [] σ (sw_pV p) := by
  intro k
  induction k with
  | zero => intro σ o1 x2 h; cases h
  | succ k ih => intro σ o1 x2 h; exact SC_X1_fillNear_35 hd ih h
noncomputable def S_X1_fillNear_10 (c10 : sw_St → Nat → Int32 → Option (Unit × sw_St)) (σ : sw_St) (o1 : Nat) (x2 : Int32) : Option (Unit × sw_St) :=
  if sw_isO sw_gX o1 9 = true then (if (σ.1 o1 1) ≤ x2 then (L_X1_fillNear_35 sw_fuel σ o1 0) else (if sw_inb x2 8 = true then (c10 (sw_uI σ 59 x2.toNatClampNeg ((1 : Int32) <<< (x2 &&& 31))) o1 (x2 + 1)) else none)) else none
theorem SC_X1_fillNear_10 {E : sw_E} {d : Nat} (hd : 0 ≤ d) {p : Unit × sw_St} {c10 : sw_St → Nat → Int32 → Option (Unit × sw_St)} (h10 : ∀ (σ : sw_St) (o1 : Nat) (x2 : Int32), c10 σ o1 x2 = some p → sw_W E sw_gX m_X1_fillNear d 10 [(0, .ref 54), (1, .ref o1), (2, .int x2)] [] σ (sw_pV p)) {σ : sw_St} {o1 : Nat} {x2 : Int32} (h : S_X1_fillNear_10 c10 σ o1 x2 = some p) : sw_W E sw_gX m_X1_fillNear d 10 [(0, .ref 54), (1, .ref o1), (2, .int x2)] [] σ (sw_pV p) := by
  unfold S_X1_fillNear_10 at h
  obtain ⟨o1, h⟩ := sw_ifs h
  refine B_X1_fillNear_10 o1 (fun hc => ?_) (fun hc => ?_)
  · rw [if_pos hc] at h
    refine B_X1_fillNear_33  ?_
    exact LC_X1_fillNear_35 hd _ _ _ _ h
  · rw [if_neg hc] at h
    obtain ⟨o2, h⟩ := sw_ifs h
    refine B_X1_fillNear_18 (sw_inb_sp o2) ?_
    exact h10 _ _ _ h
noncomputable def L_X1_fillNear_10 : Nat → sw_St → Nat → Int32 → Option (Unit × sw_St)
  | 0, _, _, _ => none
  | k + 1, σ, o1, x2 => S_X1_fillNear_10 (fun σ o1 x2 => L_X1_fillNear_10 k σ o1 x2) σ o1 x2
theorem LC_X1_fillNear_10 {E : sw_E} {d : Nat} (hd : 0 ≤ d) {p : Unit × sw_St} : ∀ (k : Nat) (σ : sw_St) (o1 : Nat) (x2 : Int32), L_X1_fillNear_10 k σ o1 x2 = some p → sw_W E sw_gX m_X1_fillNear d 10 [(0, .ref 54), (1, .ref o1), (2, .int x2)] [] σ (sw_pV p) := by
  intro k
  induction k with
  | zero => intro σ o1 x2 h; cases h
  | succ k ih => intro σ o1 x2 h; exact SC_X1_fillNear_10 hd ih h
noncomputable def F_X1_fillNear (σ : sw_St) : Option (Unit × sw_St) :=
  (σ.2.2 33 0).bind fun w1 => (L_X1_fillNear_10 sw_fuel σ w1 0)
theorem FC_X1_fillNear {E : sw_E} {d : Nat} (hd : 0 ≤ d) {p : Unit × sw_St} {σ : sw_St} (h : F_X1_fillNear σ  = some p) : sw_KV E sw_gX m_X1_fillNear d [.ref 54] σ (fun s => s = p.2) := by
  unfold F_X1_fillNear at h
  refine sw_K.of (by decide +kernel) rfl (Nat.le_of_ble_eq_true rfl) ?_
  show sw_W E sw_gX m_X1_fillNear d 0 [(0, .ref 54)] [] σ (sw_pV p)
  obtain ⟨w1, ow1, h⟩ := sw_bnd h
  refine B_X1_fillNear_0 ow1 ?_
  exact LC_X1_fillNear_10 hd _ _ _ _ h
/-! StrayWool$Foresight.watches(II)Z -/
noncomputable def S_X1_watches_38 (c2 : sw_St → Int32 → Int32 → Int32 → Option (Int32 × sw_St)) (σ : sw_St) (x1 : Int32) (x2 : Int32) (x3 : Int32) : Option (Int32 × sw_St) :=
  c2 σ x1 x2 (x3 + 1)
theorem SC_X1_watches_38 {E : sw_E} {d : Nat} (hd : 0 ≤ d) {p : Int32 × sw_St} {c2 : sw_St → Int32 → Int32 → Int32 → Option (Int32 × sw_St)} (h2 : ∀ (σ : sw_St) (x1 : Int32) (x2 : Int32) (x3 : Int32), c2 σ x1 x2 x3 = some p → sw_W E sw_gX m_X1_watches d 2 [(0, .ref 54), (1, .int x1), (2, .int x2), (3, .int x3)] [] σ (sw_pI p)) {σ : sw_St} {x1 : Int32} {x2 : Int32} {x3 : Int32} (h : S_X1_watches_38 c2 σ x1 x2 x3 = some p) : sw_W E sw_gX m_X1_watches d 38 [(0, .ref 54), (1, .int x1), (2, .int x2), (3, .int x3)] [] σ (sw_pI p) := by
  unfold S_X1_watches_38 at h
  refine B_X1_watches_38  ?_
  exact h2 _ _ _ _ h
noncomputable def S_X1_watches_2 (c2 : sw_St → Int32 → Int32 → Int32 → Option (Int32 × sw_St)) (σ : sw_St) (x1 : Int32) (x2 : Int32) (x3 : Int32) : Option (Int32 × sw_St) :=
  (σ.2.2 33 0).bind fun w1 => (if sw_isO sw_gX w1 9 = true then (if (σ.1 w1 1) ≤ x3 then (some (1, σ)) else (if ((x2 >>> (x3 &&& 31)) &&& 1) = 1 then (if sw_inb x3 8 = true then (if ((σ.1 59 x3.toNatClampNeg) &&& x1) = 0 then (some (0, σ)) else (S_X1_watches_38 c2 σ x1 x2 x3)) else none) else (S_X1_watches_38 c2 σ x1 x2 x3))) else none)
theorem SC_X1_watches_2 {E : sw_E} {d : Nat} (hd : 0 ≤ d) {p : Int32 × sw_St} {c2 : sw_St → Int32 → Int32 → Int32 → Option (Int32 × sw_St)} (h2 : ∀ (σ : sw_St) (x1 : Int32) (x2 : Int32) (x3 : Int32), c2 σ x1 x2 x3 = some p → sw_W E sw_gX m_X1_watches d 2 [(0, .ref 54), (1, .int x1), (2, .int x2), (3, .int x3)] [] σ (sw_pI p)) {σ : sw_St} {x1 : Int32} {x2 : Int32} {x3 : Int32} (h : S_X1_watches_2 c2 σ x1 x2 x3 = some p) : sw_W E sw_gX m_X1_watches d 2 [(0, .ref 54), (1, .int x1), (2, .int x2), (3, .int x3)] [] σ (sw_pI p) := by
  unfold S_X1_watches_2 at h
  obtain ⟨w1, ow1, h⟩ := sw_bnd h
  obtain ⟨o2, h⟩ := sw_ifs h
  refine B_X1_watches_2 ow1 o2 (fun hc => ?_) (fun hc => ?_)
  · rw [if_pos hc] at h
    cases h
    exact B_X1_watches_44  ⟨_, rfl, rfl, rfl⟩
  · rw [if_neg hc] at h
    refine B_X1_watches_16  (fun hc => ?_) (fun hc => ?_)
    · rw [if_neg hc] at h
      exact SC_X1_watches_38 hd h2 h
    · rw [if_pos hc] at h
      obtain ⟨o3, h⟩ := sw_ifs h
      refine B_X1_watches_25 (sw_inb_sp o3) (fun hc => ?_) (fun hc => ?_)
      · rw [if_neg hc] at h
        exact SC_X1_watches_38 hd h2 h
      · rw [if_pos hc] at h
        cases h
        exact B_X1_watches_36  ⟨_, rfl, rfl, rfl⟩
noncomputable def L_X1_watches_2 : Nat → sw_St → Int32 → Int32 → Int32 → Option (Int32 × sw_St)
  | 0, _, _, _, _ => none
  | k + 1, σ, x1, x2, x3 => S_X1_watches_2 (fun σ x1 x2 x3 => L_X1_watches_2 k σ x1 x2 x3) σ x1 x2 x3
theorem LC_X1_watches_2 {E : sw_E} {d : Nat} (hd : 0 ≤ d) {p : Int32 × sw_St} : ∀ (k : Nat) (σ : sw_St) (x1 : Int32) (x2 : Int32) (x3 : Int32), L_X1_watches_2 k σ x1 x2 x3 = some p → sw_W E sw_gX m_X1_watches d 2 [(0, .ref 54), (1, .int x1), (2, .int x2), (3, .int x3)] [] σ (sw_pI p) := by
  intro k
  induction k with
  | zero => intro σ x1 x2 x3 h; cases h
  | succ k ih => intro σ x1 x2 x3 h; exact SC_X1_watches_2 hd ih h
noncomputable def F_X1_watches (σ : sw_St) (x1 : Int32) (x2 : Int32) : Option (Int32 × sw_St) :=
  L_X1_watches_2 sw_fuel σ x1 x2 0
theorem FC_X1_watches {E : sw_E} {d : Nat} (hd : 0 ≤ d) {p : Int32 × sw_St} {σ : sw_St} {x1 : Int32} {x2 : Int32} (h : F_X1_watches σ x1 x2 = some p) : sw_KI E sw_gX m_X1_watches d [.ref 54, .int x1, .int x2] σ (fun v s => v = p.1 ∧ s = p.2) := by
  unfold F_X1_watches at h
  refine sw_K.of (by decide +kernel) rfl (Nat.le_of_ble_eq_true rfl) ?_
  show sw_W E sw_gX m_X1_watches d 0 [(0, .ref 54), (1, .int x1), (2, .int x2)] [] σ (sw_pI p)
  refine B_X1_watches_0  ?_
  exact LC_X1_watches_2 hd _ _ _ _ _ h
/-! StrayWool$Foresight.leadEnds(III)V -/
noncomputable def S_X1_leadEnds_3 (c3 : sw_St → Int32 → Int32 → Int32 → Int32 → Option (Unit × sw_St)) (σ : sw_St) (x1 : Int32) (x2 : Int32) (x3 : Int32) (x4 : Int32) : Option (Unit × sw_St) :=
  if 64 ≤ x4 then (some ((), σ)) else ((σ.2.2 54 11).bind fun w1 => (if sw_isA sw_gX w1 3 = true then (if sw_inb ((x2 * 64) + ((((3 * x4) + x3) + 1) - (((3 * x4) + x3) + 1) / 64 * 64)) (sw_ln sw_gX w1) = true then ((σ.2.2 54 10).bind fun w4 => (if sw_isA sw_gX w4 3 = true then (if sw_inb ((x1 * 64) + x4) (sw_ln sw_gX w4) = true then (if sw_isA sw_gX w1 3 = true then (if sw_inb ((x2 * 64) + ((((3 * x4) + x3) + 1) - (((3 * x4) + x3) + 1) / 64 * 64)) (sw_ln sw_gX w1) = true then (c3 (sw_uL σ w1 (((x2 * 64) + ((((3 * x4) + x3) + 1) - (((3 * x4) + x3) + 1) / 64 * 64)).toNatClampNeg) ((σ.2.1 w1 (((x2 * 64) + ((((3 * x4) + x3) + 1) - (((3 * x4) + x3) + 1) / 64 * 64)).toNatClampNeg)) + (σ.2.1 w4 (((x1 * 64) + x4).toNatClampNeg)))) x1 x2 x3 (x4 + 1)) else none) else none) else none) else none)) else none) else none))
theorem SC_X1_leadEnds_3 {E : sw_E} {d : Nat} (hd : 0 ≤ d) {p : Unit × sw_St} {c3 : sw_St → Int32 → Int32 → Int32 → Int32 → Option (Unit × sw_St)} (h3 : ∀ (σ : sw_St) (x1 : Int32) (x2 : Int32) (x3 : Int32) (x4 : Int32), c3 σ x1 x2 x3 x4 = some p → sw_W E sw_gX m_X1_leadEnds d 3 [(0, .ref 54), (1, .int x1), (2, .int x2), (3, .int x3), (4, .int x4)] [] σ (sw_pV p)) {σ : sw_St} {x1 : Int32} {x2 : Int32} {x3 : Int32} {x4 : Int32} (h : S_X1_leadEnds_3 c3 σ x1 x2 x3 x4 = some p) : sw_W E sw_gX m_X1_leadEnds d 3 [(0, .ref 54), (1, .int x1), (2, .int x2), (3, .int x3), (4, .int x4)] [] σ (sw_pV p) := by
  unfold S_X1_leadEnds_3 at h
  refine B_X1_leadEnds_3  (fun hc => ?_) (fun hc => ?_)
  · rw [if_pos hc] at h
    cases h
    exact B_X1_leadEnds_52  ⟨rfl, rfl⟩
  · rw [if_neg hc] at h
    obtain ⟨w1, ow1, h⟩ := sw_bnd h
    obtain ⟨o2, h⟩ := sw_ifs h
    obtain ⟨o3, h⟩ := sw_ifs h
    obtain ⟨w4, ow4, h⟩ := sw_bnd h
    obtain ⟨o5, h⟩ := sw_ifs h
    obtain ⟨o6, h⟩ := sw_ifs h
    obtain ⟨o7, h⟩ := sw_ifs h
    obtain ⟨o8, h⟩ := sw_ifs h
    refine B_X1_leadEnds_10 ow1 o2 (sw_inb_sp o3) ow4 o5 (sw_inb_sp o6) o7 (sw_inb_sp o8) ?_
    exact h3 _ _ _ _ _ h
noncomputable def L_X1_leadEnds_3 : Nat → sw_St → Int32 → Int32 → Int32 → Int32 → Option (Unit × sw_St)
  | 0, _, _, _, _, _ => none
  | k + 1, σ, x1, x2, x3, x4 => S_X1_leadEnds_3 (fun σ x1 x2 x3 x4 => L_X1_leadEnds_3 k σ x1 x2 x3 x4) σ x1 x2 x3 x4
theorem LC_X1_leadEnds_3 {E : sw_E} {d : Nat} (hd : 0 ≤ d) {p : Unit × sw_St} : ∀ (k : Nat) (σ : sw_St) (x1 : Int32) (x2 : Int32) (x3 : Int32) (x4 : Int32), L_X1_leadEnds_3 k σ x1 x2 x3 x4 = some p → sw_W E sw_gX m_X1_leadEnds d 3 [(0, .ref 54), (1, .int x1), (2, .int x2), (3, .int x3), (4, .int x4)] [] σ (sw_pV p) := by
  intro k
  induction k with
  | zero => intro σ x1 x2 x3 x4 h; cases h
  | succ k ih => intro σ x1 x2 x3 x4 h; exact SC_X1_leadEnds_3 hd ih h
noncomputable def F_X1_leadEnds (σ : sw_St) (x1 : Int32) (x2 : Int32) (x3 : Int32) : Option (Unit × sw_St) :=
  L_X1_leadEnds_3 sw_fuel σ x1 x2 x3 0
theorem FC_X1_leadEnds {E : sw_E} {d : Nat} (hd : 0 ≤ d) {p : Unit × sw_St} {σ : sw_St} {x1 : Int32} {x2 : Int32} {x3 : Int32} (h : F_X1_leadEnds σ x1 x2 x3 = some p) : sw_KV E sw_gX m_X1_leadEnds d [.ref 54, .int x1, .int x2, .int x3] σ (fun s => s = p.2) := by
  unfold F_X1_leadEnds at h
  refine sw_K.of (by decide +kernel) rfl (Nat.le_of_ble_eq_true rfl) ?_
  show sw_W E sw_gX m_X1_leadEnds d 0 [(0, .ref 54), (1, .int x1), (2, .int x2), (3, .int x3)] [] σ (sw_pV p)
  refine B_X1_leadEnds_0  ?_
  exact LC_X1_leadEnds_3 hd _ _ _ _ _ _ h
/-! StrayWool$Foresight.takeFelt([BI)Z -/
noncomputable def S_X1_takeFelt_22 (σ : sw_St) : Option (Int32 × sw_St) :=
  some (0, σ)
theorem SC_X1_takeFelt_22 {E : sw_E} {d : Nat} (hd : 0 ≤ d) {p : Int32 × sw_St} {σ : sw_St} (h : S_X1_takeFelt_22 σ  = some p) : sw_W E sw_gX m_X1_takeFelt d 22 [] [] σ (sw_pI p) := by
  unfold S_X1_takeFelt_22 at h
  cases h
  exact B_X1_takeFelt_22  ⟨_, rfl, rfl, rfl⟩
noncomputable def S_X1_takeFelt_95 (c95 : sw_St → Nat → Int32 → Int32 → Int32 → Option (Int32 × sw_St)) (σ : sw_St) (o1 : Nat) (x2 : Int32) (x3 : Int32) (x4 : Int32) : Option (Int32 × sw_St) :=
  if x2 ≤ x4 then (some (1, (sw_uI σ 54 4 x3))) else (if sw_isA sw_gX o1 1 = true then (if sw_inb x4 (sw_ln sw_gX o1) = true then (if sw_inb x4 48 = true then (c95 (sw_uI σ 55 x4.toNatClampNeg ((σ.1 o1 x4.toNatClampNeg) &&& 255)) o1 x2 x3 (x4 + 1)) else none) else none) else none)
theorem SC_X1_takeFelt_95 {E : sw_E} {d : Nat} (hd : 0 ≤ d) {p : Int32 × sw_St} {c95 : sw_St → Nat → Int32 → Int32 → Int32 → Option (Int32 × sw_St)} (h95 : ∀ (σ : sw_St) (o1 : Nat) (x2 : Int32) (x3 : Int32) (x4 : Int32), c95 σ o1 x2 x3 x4 = some p → sw_W E sw_gX m_X1_takeFelt d 95 [(0, .ref 54), (1, .ref o1), (2, .int x2), (3, .int x3), (4, .int x4)] [] σ (sw_pI p)) {σ : sw_St} {o1 : Nat} {x2 : Int32} {x3 : Int32} {x4 : Int32} (h : S_X1_takeFelt_95 c95 σ o1 x2 x3 x4 = some p) : sw_W E sw_gX m_X1_takeFelt d 95 [(0, .ref 54), (1, .ref o1), (2, .int x2), (3, .int x3), (4, .int x4)] [] σ (sw_pI p) := by
  unfold S_X1_takeFelt_95 at h
  refine B_X1_takeFelt_95  (fun hc => ?_) (fun hc => ?_)
  · rw [if_pos hc] at h
    cases h
    exact B_X1_takeFelt_122  ⟨_, rfl, rfl, rfl⟩
  · rw [if_neg hc] at h
    obtain ⟨o1, h⟩ := sw_ifs h
    obtain ⟨o2, h⟩ := sw_ifs h
    obtain ⟨o3, h⟩ := sw_ifs h
    refine B_X1_takeFelt_101 o1 (sw_inb_sp o2) (sw_inb_sp o3) ?_
    exact h95 _ _ _ _ _ h
noncomputable def L_X1_takeFelt_95 : Nat → sw_St → Nat → Int32 → Int32 → Int32 → Option (Int32 × sw_St)
  | 0, _, _, _, _, _ => none
  | k + 1, σ, o1, x2, x3, x4 => S_X1_takeFelt_95 (fun σ o1 x2 x3 x4 => L_X1_takeFelt_95 k σ o1 x2 x3 x4) σ o1 x2 x3 x4
theorem LC_X1_takeFelt_95 {E : sw_E} {d : Nat} (hd : 0 ≤ d) {p : Int32 × sw_St} : ∀ (k : Nat) (σ : sw_St) (o1 : Nat) (x2 : Int32) (x3 : Int32) (x4 : Int32), L_X1_takeFelt_95 k σ o1 x2 x3 x4 = some p → sw_W E sw_gX m_X1_takeFelt d 95 [(0, .ref 54), (1, .ref o1), (2, .int x2), (3, .int x3), (4, .int x4)] [] σ (sw_pI p) := by
  intro k
  induction k with
  | zero => intro σ o1 x2 x3 x4 h; cases h
  | succ k ih => intro σ o1 x2 x3 x4 h; exact SC_X1_takeFelt_95 hd ih h
noncomputable def S_X1_takeFelt_84 (σ : sw_St) : Option (Int32 × sw_St) :=
  some (0, σ)
theorem SC_X1_takeFelt_84 {E : sw_E} {d : Nat} (hd : 0 ≤ d) {p : Int32 × sw_St} {σ : sw_St} (h : S_X1_takeFelt_84 σ  = some p) : sw_W E sw_gX m_X1_takeFelt d 84 [] [] σ (sw_pI p) := by
  unfold S_X1_takeFelt_84 at h
  cases h
  exact B_X1_takeFelt_84  ⟨_, rfl, rfl, rfl⟩
noncomputable def S_X1_takeFelt_27 (c27 : sw_St → Nat → Int32 → Int32 → Int32 → Option (Int32 × sw_St)) (σ : sw_St) (o1 : Nat) (x2 : Int32) (x3 : Int32) (x4 : Int32) : Option (Int32 × sw_St) :=
  if x2 ≤ x4 then (L_X1_takeFelt_95 sw_fuel σ o1 x2 x3 0) else (if sw_isA sw_gX o1 1 = true then (if sw_inb x4 (sw_ln sw_gX o1) = true then (if 30 < ((σ.1 o1 x4.toNatClampNeg) &&& 255) then (S_X1_takeFelt_84 σ ) else (if sw_isA sw_gX o1 1 = true then (if sw_inb (x4 + 1) (sw_ln sw_gX o1) = true then ((σ.2.2 33 0).bind fun w5 => (if sw_isO sw_gX w5 9 = true then (if (σ.1 w5 3) ≤ ((σ.1 o1 ((x4 + 1).toNatClampNeg)) &&& 255) then (S_X1_takeFelt_84 σ ) else (if sw_isA sw_gX o1 1 = true then (if sw_inb (x4 + 2) (sw_ln sw_gX o1) = true then (if ((σ.1 o1 ((x4 + 2).toNatClampNeg)) &&& 255) < 64 then (c27 σ o1 x2 x3 (x4 + 3)) else (S_X1_takeFelt_84 σ )) else none) else none)) else none)) else none) else none)) else none) else none)
theorem SC_X1_takeFelt_27 {E : sw_E} {d : Nat} (hd : 0 ≤ d) {p : Int32 × sw_St} {c27 : sw_St → Nat → Int32 → Int32 → Int32 → Option (Int32 × sw_St)} (h27 : ∀ (σ : sw_St) (o1 : Nat) (x2 : Int32) (x3 : Int32) (x4 : Int32), c27 σ o1 x2 x3 x4 = some p → sw_W E sw_gX m_X1_takeFelt d 27 [(0, .ref 54), (1, .ref o1), (2, .int x2), (3, .int x3), (4, .int x4)] [] σ (sw_pI p)) {σ : sw_St} {o1 : Nat} {x2 : Int32} {x3 : Int32} {x4 : Int32} (h : S_X1_takeFelt_27 c27 σ o1 x2 x3 x4 = some p) : sw_W E sw_gX m_X1_takeFelt d 27 [(0, .ref 54), (1, .ref o1), (2, .int x2), (3, .int x3), (4, .int x4)] [] σ (sw_pI p) := by
  unfold S_X1_takeFelt_27 at h
  refine B_X1_takeFelt_27  (fun hc => ?_) (fun hc => ?_)
  · rw [if_pos hc] at h
    refine B_X1_takeFelt_92  ?_
    exact LC_X1_takeFelt_95 hd _ _ _ _ _ _ h
  · rw [if_neg hc] at h
    obtain ⟨o1, h⟩ := sw_ifs h
    obtain ⟨o2, h⟩ := sw_ifs h
    refine B_X1_takeFelt_33 o1 (sw_inb_sp o2) (fun hc => ?_) (fun hc => ?_)
    · rw [if_pos hc] at h
      exact SC_X1_takeFelt_84 hd h
    · rw [if_neg hc] at h
      obtain ⟨o3, h⟩ := sw_ifs h
      obtain ⟨o4, h⟩ := sw_ifs h
      obtain ⟨w5, ow5, h⟩ := sw_bnd h
      obtain ⟨o6, h⟩ := sw_ifs h
      refine B_X1_takeFelt_46 o3 (sw_inb_sp o4) ow5 o6 (fun hc => ?_) (fun hc => ?_)
      · rw [if_pos hc] at h
        exact SC_X1_takeFelt_84 hd h
      · rw [if_neg hc] at h
        obtain ⟨o7, h⟩ := sw_ifs h
        obtain ⟨o8, h⟩ := sw_ifs h
        refine B_X1_takeFelt_69 o7 (sw_inb_sp o8) (fun hc => ?_) (fun hc => ?_)
        · rw [if_pos hc] at h
          refine B_X1_takeFelt_86  ?_
          exact h27 _ _ _ _ _ h
        · rw [if_neg hc] at h
          exact SC_X1_takeFelt_84 hd h
noncomputable def L_X1_takeFelt_27 : Nat → sw_St → Nat → Int32 → Int32 → Int32 → Option (Int32 × sw_St)
  | 0, _, _, _, _, _ => none
  | k + 1, σ, o1, x2, x3, x4 => S_X1_takeFelt_27 (fun σ o1 x2 x3 x4 => L_X1_takeFelt_27 k σ o1 x2 x3 x4) σ o1 x2 x3 x4
theorem LC_X1_takeFelt_27 {E : sw_E} {d : Nat} (hd : 0 ≤ d) {p : Int32 × sw_St} : ∀ (k : Nat) (σ : sw_St) (o1 : Nat) (x2 : Int32) (x3 : Int32) (x4 : Int32), L_X1_takeFelt_27 k σ o1 x2 x3 x4 = some p → sw_W E sw_gX m_X1_takeFelt d 27 [(0, .ref 54), (1, .ref o1), (2, .int x2), (3, .int x3), (4, .int x4)] [] σ (sw_pI p) := by
  intro k
  induction k with
  | zero => intro σ o1 x2 x3 x4 h; cases h
  | succ k ih => intro σ o1 x2 x3 x4 h; exact SC_X1_takeFelt_27 hd ih h
noncomputable def F_X1_takeFelt (σ : sw_St) (o1 : Nat) (x2 : Int32) : Option (Int32 × sw_St) :=
  if (x2 / 3) < 1 then (S_X1_takeFelt_22 σ ) else (if 16 < (x2 / 3) then (S_X1_takeFelt_22 σ ) else (if ((x2 / 3) * 3) = x2 then (L_X1_takeFelt_27 sw_fuel σ o1 x2 (x2 / 3) 0) else (S_X1_takeFelt_22 σ )))
theorem FC_X1_takeFelt {E : sw_E} {d : Nat} (hd : 0 ≤ d) {p : Int32 × sw_St} {σ : sw_St} {o1 : Nat} {x2 : Int32} (h : F_X1_takeFelt σ o1 x2 = some p) : sw_KI E sw_gX m_X1_takeFelt d [.ref 54, .ref o1, .int x2] σ (fun v s => v = p.1 ∧ s = p.2) := by
  unfold F_X1_takeFelt at h
  refine sw_K.of (by decide +kernel) rfl (Nat.le_of_ble_eq_true rfl) ?_
  show sw_W E sw_gX m_X1_takeFelt d 0 [(0, .ref 54), (1, .ref o1), (2, .int x2)] [] σ (sw_pI p)
  refine B_X1_takeFelt_0  (fun hc => ?_) (fun hc => ?_)
  · rw [if_pos hc] at h
    exact SC_X1_takeFelt_22 hd h
  · rw [if_neg hc] at h
    refine B_X1_takeFelt_9  (fun hc => ?_) (fun hc => ?_)
    · rw [if_pos hc] at h
      exact SC_X1_takeFelt_22 hd h
    · rw [if_neg hc] at h
      refine B_X1_takeFelt_15  (fun hc => ?_) (fun hc => ?_)
      · rw [if_pos hc] at h
        refine B_X1_takeFelt_24  ?_
        exact LC_X1_takeFelt_27 hd _ _ _ _ _ _ h
      · rw [if_neg hc] at h
        exact SC_X1_takeFelt_22 hd h
/-! StrayWool$Foresight.curiousBy(II)I -/
noncomputable def S_X1_curiousBy_35 (c5 : sw_St → Int32 → Int32 → Int32 → Int32 → Option (Int32 × sw_St)) (σ : sw_St) (x1 : Int32) (x2 : Int32) (x3 : Int32) (x4 : Int32) : Option (Int32 × sw_St) :=
  c5 σ x1 x2 x3 (x4 + 1)
theorem SC_X1_curiousBy_35 {E : sw_E} {d : Nat} (hd : 0 ≤ d) {p : Int32 × sw_St} {c5 : sw_St → Int32 → Int32 → Int32 → Int32 → Option (Int32 × sw_St)} (h5 : ∀ (σ : sw_St) (x1 : Int32) (x2 : Int32) (x3 : Int32) (x4 : Int32), c5 σ x1 x2 x3 x4 = some p → sw_W E sw_gX m_X1_curiousBy d 5 [(0, .ref 54), (1, .int x1), (2, .int x2), (3, .int x3), (4, .int x4)] [] σ (sw_pI p)) {σ : sw_St} {x1 : Int32} {x2 : Int32} {x3 : Int32} {x4 : Int32} (h : S_X1_curiousBy_35 c5 σ x1 x2 x3 x4 = some p) : sw_W E sw_gX m_X1_curiousBy d 35 [(0, .ref 54), (1, .int x1), (2, .int x2), (3, .int x3), (4, .int x4)] [] σ (sw_pI p) := by
  unfold S_X1_curiousBy_35 at h
  refine B_X1_curiousBy_35  ?_
  exact h5 _ _ _ _ _ h
noncomputable def S_X1_curiousBy_5 (c5 : sw_St → Int32 → Int32 → Int32 → Int32 → Option (Int32 × sw_St)) (σ : sw_St) (x1 : Int32) (x2 : Int32) (x3 : Int32) (x4 : Int32) : Option (Int32 × sw_St) :=
  if 10 ≤ x4 then (some (x3, σ)) else (if sw_inb ((x4 * 31) + x1) 310 = true then (if (σ.1 57 (((x4 * 31) + x1).toNatClampNeg)) = x2 then (S_X1_curiousBy_35 c5 σ x1 x2 (x3 ||| ((1 : Int32) <<< (x4 &&& 31))) x4) else (S_X1_curiousBy_35 c5 σ x1 x2 x3 x4)) else none)
theorem SC_X1_curiousBy_5 {E : sw_E} {d : Nat} (hd : 0 ≤ d) {p : Int32 × sw_St} {c5 : sw_St → Int32 → Int32 → Int32 → Int32 → Option (Int32 × sw_St)} (h5 : ∀ (σ : sw_St) (x1 : Int32) (x2 : Int32) (x3 : Int32) (x4 : Int32), c5 σ x1 x2 x3 x4 = some p → sw_W E sw_gX m_X1_curiousBy d 5 [(0, .ref 54), (1, .int x1), (2, .int x2), (3, .int x3), (4, .int x4)] [] σ (sw_pI p)) {σ : sw_St} {x1 : Int32} {x2 : Int32} {x3 : Int32} {x4 : Int32} (h : S_X1_curiousBy_5 c5 σ x1 x2 x3 x4 = some p) : sw_W E sw_gX m_X1_curiousBy d 5 [(0, .ref 54), (1, .int x1), (2, .int x2), (3, .int x3), (4, .int x4)] [] σ (sw_pI p) := by
  unfold S_X1_curiousBy_5 at h
  refine B_X1_curiousBy_5  (fun hc => ?_) (fun hc => ?_)
  · rw [if_pos hc] at h
    cases h
    exact B_X1_curiousBy_41  ⟨_, rfl, rfl, rfl⟩
  · rw [if_neg hc] at h
    obtain ⟨o1, h⟩ := sw_ifs h
    refine B_X1_curiousBy_12 (sw_inb_sp o1) (fun hc => ?_) (fun hc => ?_)
    · rw [if_neg hc] at h
      exact SC_X1_curiousBy_35 hd h5 h
    · rw [if_pos hc] at h
      refine B_X1_curiousBy_28  ?_
      exact SC_X1_curiousBy_35 hd h5 h
noncomputable def L_X1_curiousBy_5 : Nat → sw_St → Int32 → Int32 → Int32 → Int32 → Option (Int32 × sw_St)
  | 0, _, _, _, _, _ => none
  | k + 1, σ, x1, x2, x3, x4 => S_X1_curiousBy_5 (fun σ x1 x2 x3 x4 => L_X1_curiousBy_5 k σ x1 x2 x3 x4) σ x1 x2 x3 x4
theorem LC_X1_curiousBy_5 {E : sw_E} {d : Nat} (hd : 0 ≤ d) {p : Int32 × sw_St} : ∀ (k : Nat) (σ : sw_St) (x1 : Int32) (x2 : Int32) (x3 : Int32) (x4 : Int32), L_X1_curiousBy_5 k σ x1 x2 x3 x4 = some p → sw_W E sw_gX m_X1_curiousBy d 5 [(0, .ref 54), (1, .int x1), (2, .int x2), (3, .int x3), (4, .int x4)] [] σ (sw_pI p) := by
  intro k
  induction k with
  | zero => intro σ x1 x2 x3 x4 h; cases h
  | succ k ih => intro σ x1 x2 x3 x4 h; exact SC_X1_curiousBy_5 hd ih h
noncomputable def F_X1_curiousBy (σ : sw_St) (x1 : Int32) (x2 : Int32) : Option (Int32 × sw_St) :=
  L_X1_curiousBy_5 sw_fuel σ x1 x2 0 0
theorem FC_X1_curiousBy {E : sw_E} {d : Nat} (hd : 0 ≤ d) {p : Int32 × sw_St} {σ : sw_St} {x1 : Int32} {x2 : Int32} (h : F_X1_curiousBy σ x1 x2 = some p) : sw_KI E sw_gX m_X1_curiousBy d [.ref 54, .int x1, .int x2] σ (fun v s => v = p.1 ∧ s = p.2) := by
  unfold F_X1_curiousBy at h
  refine sw_K.of (by decide +kernel) rfl (Nat.le_of_ble_eq_true rfl) ?_
  show sw_W E sw_gX m_X1_curiousBy d 0 [(0, .ref 54), (1, .int x1), (2, .int x2)] [] σ (sw_pI p)
  refine B_X1_curiousBy_0  ?_
  exact LC_X1_curiousBy_5 hd _ _ _ _ _ _ h
/-! StrayWool$Hill.setSheep(LStrayWool$State;I)V -/
noncomputable def F_X2_setSheep (σ : sw_St) (o1 : Nat) (x2 : Int32) : Option (Unit × sw_St) :=
  if sw_isO sw_gX o1 8 = true then (if sw_isA sw_gX (o1 + 5) 0 = true then (if sw_inb x2 (sw_ln sw_gX (o1 + 5)) = true then (if sw_isO sw_gX o1 8 = true then (if sw_isA sw_gX (o1 + 2) 0 = true then (if sw_inb x2 (sw_ln sw_gX (o1 + 2)) = true then (if sw_isO sw_gX o1 8 = true then (if sw_isO sw_gX o1 8 = true then (if sw_isA sw_gX (o1 + 3) 0 = true then (if sw_inb x2 (sw_ln sw_gX (o1 + 3)) = true then (if sw_isO sw_gX o1 8 = true then (if sw_isA sw_gX (o1 + 4) 0 = true then (if sw_inb x2 (sw_ln sw_gX (o1 + 4)) = true then (if sw_isO sw_gX o1 8 = true then (if sw_isA sw_gX (o1 + 1) 0 = true then (if sw_inb x2 (sw_ln sw_gX (o1 + 1)) = true then (some ((), (sw_uI (sw_uI (sw_uI (sw_uI (sw_uI (sw_uI (sw_uI σ 35 0 (σ.1 (o1 + 5) x2.toNatClampNeg)) 35 1 ((sw_uI σ 35 0 (σ.1 (o1 + 5) x2.toNatClampNeg)).1 (o1 + 2) x2.toNatClampNeg)) 35 2 ((sw_uI (sw_uI σ 35 0 (σ.1 (o1 + 5) x2.toNatClampNeg)) 35 1 ((sw_uI σ 35 0 (σ.1 (o1 + 5) x2.toNatClampNeg)).1 (o1 + 2) x2.toNatClampNeg)).1 o1 0)) 35 6 ((sw_uI (sw_uI (sw_uI σ 35 0 (σ.1 (o1 + 5) x2.toNatClampNeg)) 35 1 ((sw_uI σ 35 0 (σ.1 (o1 + 5) x2.toNatClampNeg)).1 (o1 + 2) x2.toNatClampNeg)) 35 2 ((sw_uI (sw_uI σ 35 0 (σ.1 (o1 + 5) x2.toNatClampNeg)) 35 1 ((sw_uI σ 35 0 (σ.1 (o1 + 5) x2.toNatClampNeg)).1 (o1 + 2) x2.toNatClampNeg)).1 o1 0)).1 (o1 + 3) x2.toNatClampNeg)) 35 7 ((sw_uI (sw_uI (sw_uI (sw_uI σ 35 0 (σ.1 (o1 + 5) x2.toNatClampNeg)) 35 1 ((sw_uI σ 35 0 (σ.1 (o1 + 5) x2.toNatClampNeg)).1 (o1 + 2) x2.toNatClampNeg)) 35 2 ((sw_uI (sw_uI σ 35 0 (σ.1 (o1 + 5) x2.toNatClampNeg)) 35 1 ((sw_uI σ 35 0 (σ.1 (o1 + 5) x2.toNatClampNeg)).1 (o1 + 2) x2.toNatClampNeg)).1 o1 0)) 35 6 ((sw_uI (sw_uI (sw_uI σ 35 0 (σ.1 (o1 + 5) x2.toNatClampNeg)) 35 1 ((sw_uI σ 35 0 (σ.1 (o1 + 5) x2.toNatClampNeg)).1 (o1 + 2) x2.toNatClampNeg)) 35 2 ((sw_uI (sw_uI σ 35 0 (σ.1 (o1 + 5) x2.toNatClampNeg)) 35 1 ((sw_uI σ 35 0 (σ.1 (o1 + 5) x2.toNatClampNeg)).1 (o1 + 2) x2.toNatClampNeg)).1 o1 0)).1 (o1 + 3) x2.toNatClampNeg)).1 (o1 + 4) x2.toNatClampNeg)) 35 8 x2) 35 9 ((sw_uI (sw_uI (sw_uI (sw_uI (sw_uI (sw_uI σ 35 0 (σ.1 (o1 + 5) x2.toNatClampNeg)) 35 1 ((sw_uI σ 35 0 (σ.1 (o1 + 5) x2.toNatClampNeg)).1 (o1 + 2) x2.toNatClampNeg)) 35 2 ((sw_uI (sw_uI σ 35 0 (σ.1 (o1 + 5) x2.toNatClampNeg)) 35 1 ((sw_uI σ 35 0 (σ.1 (o1 + 5) x2.toNatClampNeg)).1 (o1 + 2) x2.toNatClampNeg)).1 o1 0)) 35 6 ((sw_uI (sw_uI (sw_uI σ 35 0 (σ.1 (o1 + 5) x2.toNatClampNeg)) 35 1 ((sw_uI σ 35 0 (σ.1 (o1 + 5) x2.toNatClampNeg)).1 (o1 + 2) x2.toNatClampNeg)) 35 2 ((sw_uI (sw_uI σ 35 0 (σ.1 (o1 + 5) x2.toNatClampNeg)) 35 1 ((sw_uI σ 35 0 (σ.1 (o1 + 5) x2.toNatClampNeg)).1 (o1 + 2) x2.toNatClampNeg)).1 o1 0)).1 (o1 + 3) x2.toNatClampNeg)) 35 7 ((sw_uI (sw_uI (sw_uI (sw_uI σ 35 0 (σ.1 (o1 + 5) x2.toNatClampNeg)) 35 1 ((sw_uI σ 35 0 (σ.1 (o1 + 5) x2.toNatClampNeg)).1 (o1 + 2) x2.toNatClampNeg)) 35 2 ((sw_uI (sw_uI σ 35 0 (σ.1 (o1 + 5) x2.toNatClampNeg)) 35 1 ((sw_uI σ 35 0 (σ.1 (o1 + 5) x2.toNatClampNeg)).1 (o1 + 2) x2.toNatClampNeg)).1 o1 0)) 35 6 ((sw_uI (sw_uI (sw_uI σ 35 0 (σ.1 (o1 + 5) x2.toNatClampNeg)) 35 1 ((sw_uI σ 35 0 (σ.1 (o1 + 5) x2.toNatClampNeg)).1 (o1 + 2) x2.toNatClampNeg)) 35 2 ((sw_uI (sw_uI σ 35 0 (σ.1 (o1 + 5) x2.toNatClampNeg)) 35 1 ((sw_uI σ 35 0 (σ.1 (o1 + 5) x2.toNatClampNeg)).1 (o1 + 2) x2.toNatClampNeg)).1 o1 0)).1 (o1 + 3) x2.toNatClampNeg)).1 (o1 + 4) x2.toNatClampNeg)) 35 8 x2).1 (o1 + 1) x2.toNatClampNeg)))) else none) else none) else none) else none) else none) else none) else none) else none) else none) else none) else none) else none) else none) else none) else none) else none
theorem FC_X2_setSheep {E : sw_E} {d : Nat} (hd : 0 ≤ d) {p : Unit × sw_St} {σ : sw_St} {o1 : Nat} {x2 : Int32} (h : F_X2_setSheep σ o1 x2 = some p) : sw_KV E sw_gX m_X2_setSheep d [.ref 33, .ref o1, .int x2] σ (fun s => s = p.2) := by
  unfold F_X2_setSheep at h
  refine sw_K.of (by decide +kernel) rfl (Nat.le_of_ble_eq_true rfl) ?_
  show sw_W E sw_gX m_X2_setSheep d 0 [(0, .ref 33), (1, .ref o1), (2, .int x2)] [] σ (sw_pV p)
  obtain ⟨o1, h⟩ := sw_ifs h
  obtain ⟨o2, h⟩ := sw_ifs h
  obtain ⟨o3, h⟩ := sw_ifs h
  obtain ⟨o4, h⟩ := sw_ifs h
  obtain ⟨o5, h⟩ := sw_ifs h
  obtain ⟨o6, h⟩ := sw_ifs h
  obtain ⟨o7, h⟩ := sw_ifs h
  obtain ⟨o8, h⟩ := sw_ifs h
  obtain ⟨o9, h⟩ := sw_ifs h
  obtain ⟨o10, h⟩ := sw_ifs h
  obtain ⟨o11, h⟩ := sw_ifs h
  obtain ⟨o12, h⟩ := sw_ifs h
  obtain ⟨o13, h⟩ := sw_ifs h
  obtain ⟨o14, h⟩ := sw_ifs h
  obtain ⟨o15, h⟩ := sw_ifs h
  obtain ⟨o16, h⟩ := sw_ifs h
  cases h
  exact B_X2_setSheep_0 o1 o2 (sw_inb_sp o3) o4 o5 (sw_inb_sp o6) o7 o8 o9 (sw_inb_sp o10) o11 o12 (sw_inb_sp o13) o14 o15 (sw_inb_sp o16) ⟨rfl, rfl⟩
/-! StrayWool$Hill.setField(LStrayWool$State;II)V -/
noncomputable def F_X2_setField (σ : sw_St) (o1 : Nat) (x2 : Int32) (x3 : Int32) : Option (Unit × sw_St) :=
  (σ.2.2 33 0).bind fun w1 => (if sw_isO sw_gX w1 9 = true then (if sw_isA sw_gX (w1 + 2) 0 = true then (if sw_inb x3 (sw_ln sw_gX (w1 + 2)) = true then (if sw_isO sw_gX o1 8 = true then (if sw_isA sw_gX (o1 + 6) 0 = true then (if sw_inb ((x2 * 8) + x3) (sw_ln sw_gX (o1 + 6)) = true then (some ((), (sw_uI (sw_uI σ 35 3 (σ.1 (w1 + 2) x3.toNatClampNeg)) 35 4 ((sw_uI σ 35 3 (σ.1 (w1 + 2) x3.toNatClampNeg)).1 (o1 + 6) (((x2 * 8) + x3).toNatClampNeg))))) else none) else none) else none) else none) else none) else none)
theorem FC_X2_setField {E : sw_E} {d : Nat} (hd : 0 ≤ d) {p : Unit × sw_St} {σ : sw_St} {o1 : Nat} {x2 : Int32} {x3 : Int32} (h : F_X2_setField σ o1 x2 x3 = some p) : sw_KV E sw_gX m_X2_setField d [.ref 33, .ref o1, .int x2, .int x3] σ (fun s => s = p.2) := by
  unfold F_X2_setField at h
  refine sw_K.of (by decide +kernel) rfl (Nat.le_of_ble_eq_true rfl) ?_
  show sw_W E sw_gX m_X2_setField d 0 [(0, .ref 33), (1, .ref o1), (2, .int x2), (3, .int x3)] [] σ (sw_pV p)
  obtain ⟨w1, ow1, h⟩ := sw_bnd h
  obtain ⟨o2, h⟩ := sw_ifs h
  obtain ⟨o3, h⟩ := sw_ifs h
  obtain ⟨o4, h⟩ := sw_ifs h
  obtain ⟨o5, h⟩ := sw_ifs h
  obtain ⟨o6, h⟩ := sw_ifs h
  obtain ⟨o7, h⟩ := sw_ifs h
  cases h
  exact B_X2_setField_0 ow1 o2 o3 (sw_inb_sp o4) o5 o6 (sw_inb_sp o7) ⟨rfl, rfl⟩
/-! StrayWool$Hill.mostLuring(I[II)I -/
noncomputable def S_X2_mostLuring_68 (σ : sw_St) (x4 : Int32) : Option (Int32 × sw_St) :=
  some (x4, σ)
theorem SC_X2_mostLuring_68 {E : sw_E} {d : Nat} (hd : 0 ≤ d) {p : Int32 × sw_St} {σ : sw_St} {x4 : Int32} (h : S_X2_mostLuring_68 σ x4 = some p) : sw_W E sw_gX m_X2_mostLuring d 68 [(4, .int x4)] [] σ (sw_pI p) := by
  unfold S_X2_mostLuring_68 at h
  cases h
  exact B_X2_mostLuring_68  ⟨_, rfl, rfl, rfl⟩
noncomputable def S_X2_mostLuring_62 (c6 : sw_St → Int32 → Nat → Int32 → Int32 → Int32 → Option (Int32 × sw_St)) (σ : sw_St) (x1 : Int32) (o2 : Nat) (x3 : Int32) (x4 : Int32) (x5 : Int32) : Option (Int32 × sw_St) :=
  c6 σ x1 o2 x3 x4 (x5 + 1)
theorem SC_X2_mostLuring_62 {E : sw_E} {d : Nat} (hd : 0 ≤ d) {p : Int32 × sw_St} {c6 : sw_St → Int32 → Nat → Int32 → Int32 → Int32 → Option (Int32 × sw_St)} (h6 : ∀ (σ : sw_St) (x1 : Int32) (o2 : Nat) (x3 : Int32) (x4 : Int32) (x5 : Int32), c6 σ x1 o2 x3 x4 x5 = some p → sw_W E sw_gX m_X2_mostLuring d 6 [(0, .ref 33), (1, .int x1), (2, .ref o2), (3, .int x3), (4, .int x4), (5, .int x5)] [] σ (sw_pI p)) {σ : sw_St} {x1 : Int32} {o2 : Nat} {x3 : Int32} {x4 : Int32} {x5 : Int32} (h : S_X2_mostLuring_62 c6 σ x1 o2 x3 x4 x5 = some p) : sw_W E sw_gX m_X2_mostLuring d 62 [(0, .ref 33), (1, .int x1), (2, .ref o2), (3, .int x3), (4, .int x4), (5, .int x5)] [] σ (sw_pI p) := by
  unfold S_X2_mostLuring_62 at h
  refine B_X2_mostLuring_62  ?_
  exact h6 _ _ _ _ _ _ h
noncomputable def S_X2_mostLuring_58 (c6 : sw_St → Int32 → Nat → Int32 → Int32 → Int32 → Option (Int32 × sw_St)) (σ : sw_St) (x1 : Int32) (o2 : Nat) (x3 : Int32) (x5 : Int32) : Option (Int32 × sw_St) :=
  S_X2_mostLuring_62 c6 σ x1 o2 x3 x5 x5
theorem SC_X2_mostLuring_58 {E : sw_E} {d : Nat} (hd : 0 ≤ d) {p : Int32 × sw_St} {c6 : sw_St → Int32 → Nat → Int32 → Int32 → Int32 → Option (Int32 × sw_St)} (h6 : ∀ (σ : sw_St) (x1 : Int32) (o2 : Nat) (x3 : Int32) (x4 : Int32) (x5 : Int32), c6 σ x1 o2 x3 x4 x5 = some p → sw_W E sw_gX m_X2_mostLuring d 6 [(0, .ref 33), (1, .int x1), (2, .ref o2), (3, .int x3), (4, .int x4), (5, .int x5)] [] σ (sw_pI p)) {σ : sw_St} {x1 : Int32} {o2 : Nat} {x3 : Int32} {x5 : Int32} (h : S_X2_mostLuring_58 c6 σ x1 o2 x3 x5 = some p) : sw_W E sw_gX m_X2_mostLuring d 58 [(0, .ref 33), (1, .int x1), (2, .ref o2), (3, .int x3), (5, .int x5)] [] σ (sw_pI p) := by
  unfold S_X2_mostLuring_58 at h
  refine B_X2_mostLuring_58  ?_
  exact SC_X2_mostLuring_62 hd h6 h
noncomputable def S_X2_mostLuring_6 (c6 : sw_St → Int32 → Nat → Int32 → Int32 → Int32 → Option (Int32 × sw_St)) (σ : sw_St) (x1 : Int32) (o2 : Nat) (x3 : Int32) (x4 : Int32) (x5 : Int32) : Option (Int32 × sw_St) :=
  (σ.2.2 33 0).bind fun w1 => (if sw_isO sw_gX w1 9 = true then (if (σ.1 w1 2) ≤ x5 then (S_X2_mostLuring_68 σ x4) else (if (sw_isA sw_gX o2 0 || sw_isA sw_gX o2 1 || sw_isA sw_gX o2 2 || sw_isA sw_gX o2 3) = true then (if (nI (sw_ln sw_gX o2)) ≤ (x3 + x5) then (S_X2_mostLuring_68 σ x4) else (if ((x1 >>> (x5 &&& 31)) &&& 1) = 1 then (if x4 = (-1) then (S_X2_mostLuring_58 c6 σ x1 o2 x3 x5) else (if sw_isA sw_gX o2 0 = true then (if sw_inb (x3 + x5) (sw_ln sw_gX o2) = true then (if sw_isA sw_gX o2 0 = true then (if sw_inb (x3 + x4) (sw_ln sw_gX o2) = true then (if (σ.1 o2 ((x3 + x5).toNatClampNeg)) ≤ (σ.1 o2 ((x3 + x4).toNatClampNeg)) then (S_X2_mostLuring_62 c6 σ x1 o2 x3 x4 x5) else (S_X2_mostLuring_58 c6 σ x1 o2 x3 x5)) else none) else none) else none) else none)) else (S_X2_mostLuring_62 c6 σ x1 o2 x3 x4 x5))) else none)) else none)
theorem SC_X2_mostLuring_6 {E : sw_E} {d : Nat} (hd : 0 ≤ d) {p : Int32 × sw_St} {c6 : sw_St → Int32 → Nat → Int32 → Int32 → Int32 → Option (Int32 × sw_St)} (h6 : ∀ (σ : sw_St) (x1 : Int32) (o2 : Nat) (x3 : Int32) (x4 : Int32) (x5 : Int32), c6 σ x1 o2 x3 x4 x5 = some p → sw_W E sw_gX m_X2_mostLuring d 6 [(0, .ref 33), (1, .int x1), (2, .ref o2), (3, .int x3), (4, .int x4), (5, .int x5)] [] σ (sw_pI p)) {σ : sw_St} {x1 : Int32} {o2 : Nat} {x3 : Int32} {x4 : Int32} {x5 : Int32} (h : S_X2_mostLuring_6 c6 σ x1 o2 x3 x4 x5 = some p) : sw_W E sw_gX m_X2_mostLuring d 6 [(0, .ref 33), (1, .int x1), (2, .ref o2), (3, .int x3), (4, .int x4), (5, .int x5)] [] σ (sw_pI p) := by
  unfold S_X2_mostLuring_6 at h
  obtain ⟨w1, ow1, h⟩ := sw_bnd h
  obtain ⟨o2, h⟩ := sw_ifs h
  refine B_X2_mostLuring_6 ow1 o2 (fun hc => ?_) (fun hc => ?_)
  · rw [if_pos hc] at h
    exact SC_X2_mostLuring_68 hd h
  · rw [if_neg hc] at h
    obtain ⟨o3, h⟩ := sw_ifs h
    refine B_X2_mostLuring_18 o3 (fun hc => ?_) (fun hc => ?_)
    · rw [if_pos hc] at h
      exact SC_X2_mostLuring_68 hd h
    · rw [if_neg hc] at h
      refine B_X2_mostLuring_27  (fun hc => ?_) (fun hc => ?_)
      · rw [if_neg hc] at h
        exact SC_X2_mostLuring_62 hd h6 h
      · rw [if_pos hc] at h
        refine B_X2_mostLuring_37  (fun hc => ?_) (fun hc => ?_)
        · rw [if_pos hc] at h
          exact SC_X2_mostLuring_58 hd h6 h
        · rw [if_neg hc] at h
          obtain ⟨o4, h⟩ := sw_ifs h
          obtain ⟨o5, h⟩ := sw_ifs h
          obtain ⟨o6, h⟩ := sw_ifs h
          obtain ⟨o7, h⟩ := sw_ifs h
          refine B_X2_mostLuring_43 o4 (sw_inb_sp o5) o6 (sw_inb_sp o7) (fun hc => ?_) (fun hc => ?_)
          · rw [if_pos hc] at h
            exact SC_X2_mostLuring_62 hd h6 h
          · rw [if_neg hc] at h
            exact SC_X2_mostLuring_58 hd h6 h
noncomputable def L_X2_mostLuring_6 : Nat → sw_St → Int32 → Nat → Int32 → Int32 → Int32 → Option (Int32 × sw_St)
  | 0, _, _, _, _, _, _ => none
  | k + 1, σ, x1, o2, x3, x4, x5 => S_X2_mostLuring_6 (fun σ x1 o2 x3 x4 x5 => L_X2_mostLuring_6 k σ x1 o2 x3 x4 x5) σ x1 o2 x3 x4 x5
theorem LC_X2_mostLuring_6 {E : sw_E} {d : Nat} (hd : 0 ≤ d) {p : Int32 × sw_St} : ∀ (k : Nat) (σ : sw_St) (x1 : Int32) (o2 : Nat) (x3 : Int32) (x4 : Int32) (x5 : Int32), L_X2_mostLuring_6 k σ x1 o2 x3 x4 x5 = some p → sw_W E sw_gX m_X2_mostLuring d 6 [(0, .ref 33), (1, .int x1), (2, .ref o2), (3, .int x3), (4, .int x4), (5, .int x5)] [] σ (sw_pI p) := by
  intro k
  induction k with
  | zero => intro σ x1 o2 x3 x4 x5 h; cases h
  | succ k ih => intro σ x1 o2 x3 x4 x5 h; exact SC_X2_mostLuring_6 hd ih h
noncomputable def F_X2_mostLuring (σ : sw_St) (x1 : Int32) (o2 : Nat) (x3 : Int32) : Option (Int32 × sw_St) :=
  L_X2_mostLuring_6 sw_fuel σ x1 o2 x3 (-1) 0
theorem FC_X2_mostLuring {E : sw_E} {d : Nat} (hd : 0 ≤ d) {p : Int32 × sw_St} {σ : sw_St} {x1 : Int32} {o2 : Nat} {x3 : Int32} (h : F_X2_mostLuring σ x1 o2 x3 = some p) : sw_KI E sw_gX m_X2_mostLuring d [.ref 33, .int x1, .ref o2, .int x3] σ (fun v s => v = p.1 ∧ s = p.2) := by
  unfold F_X2_mostLuring at h
  refine sw_K.of (by decide +kernel) rfl (Nat.le_of_ble_eq_true rfl) ?_
  show sw_W E sw_gX m_X2_mostLuring d 0 [(0, .ref 33), (1, .int x1), (2, .ref o2), (3, .int x3)] [] σ (sw_pI p)
  refine B_X2_mostLuring_0  ?_
  exact LC_X2_mostLuring_6 hd _ _ _ _ _ _ _ h
/-! StrayWool$Parser.endFormula(I)Z -/
noncomputable def F_X3_endFormula (σ : sw_St) (x1 : Int32) : Option (Int32 × sw_St) :=
  (σ.2.2 32 1).bind fun w1 => (if sw_isO sw_gX w1 9 = true then ((σ.2.2 32 2).bind fun w3 => (if sw_isO sw_gX w3 0 = true then (if sw_isA sw_gX (w1 + 12) 0 = true then (if sw_inb x1 (sw_ln sw_gX (w1 + 12)) = true then (some (1, (sw_uI σ (w1 + 12) x1.toNatClampNeg (σ.1 w3 1)))) else none) else none) else none)) else none)
theorem FC_X3_endFormula {E : sw_E} {d : Nat} (hd : 0 ≤ d) {p : Int32 × sw_St} {σ : sw_St} {x1 : Int32} (h : F_X3_endFormula σ x1 = some p) : sw_KI E sw_gX m_X3_endFormula d [.ref 32, .int x1] σ (fun v s => v = p.1 ∧ s = p.2) := by
  unfold F_X3_endFormula at h
  refine sw_K.of (by decide +kernel) rfl (Nat.le_of_ble_eq_true rfl) ?_
  show sw_W E sw_gX m_X3_endFormula d 0 [(0, .ref 32), (1, .int x1)] [] σ (sw_pI p)
  obtain ⟨w1, ow1, h⟩ := sw_bnd h
  obtain ⟨o2, h⟩ := sw_ifs h
  obtain ⟨w3, ow3, h⟩ := sw_bnd h
  obtain ⟨o4, h⟩ := sw_ifs h
  obtain ⟨o5, h⟩ := sw_ifs h
  obtain ⟨o6, h⟩ := sw_ifs h
  cases h
  exact B_X3_endFormula_0 ow1 o2 ow3 o4 o5 (sw_inb_sp o6) ⟨_, rfl, rfl, rfl⟩
/-! StrayWool$Parser.signCode(I)I -/
noncomputable def F_X3_signCode (σ : sw_St) (x0 : Int32) : Option (Int32 × sw_St) :=
  if x0 = 60 then (some (10014, σ)) else if x0 = 61 then (some (10016, σ)) else if x0 = 62 then (some (10015, σ)) else (some ((-1), σ))
theorem FC_X3_signCode {E : sw_E} {d : Nat} (hd : 0 ≤ d) {p : Int32 × sw_St} {σ : sw_St} {x0 : Int32} (h : F_X3_signCode σ x0 = some p) : sw_KI E sw_gX m_X3_signCode d [.int x0] σ (fun v s => v = p.1 ∧ s = p.2) := by
  unfold F_X3_signCode at h
  refine sw_K.of (by decide +kernel) rfl (Nat.le_of_ble_eq_true rfl) ?_
  show sw_W E sw_gX m_X3_signCode d 0 [(0, .int x0)] [] σ (sw_pI p)
  refine B_X3_signCode_0  (fun hc => ?_) (fun hc => ?_) (fun hc => ?_) (fun n0 n1 n2 => ?_)
  · rw [if_pos hc] at h
    cases h
    exact B_X3_signCode_28  ⟨_, rfl, rfl, rfl⟩
  · rw [if_neg (fun z => absurd (hc.symm.trans z) (by decide)), if_pos hc] at h
    cases h
    exact B_X3_signCode_36  ⟨_, rfl, rfl, rfl⟩
  · rw [if_neg (fun z => absurd (hc.symm.trans z) (by decide)), if_neg (fun z => absurd (hc.symm.trans z) (by decide)), if_pos hc] at h
    cases h
    exact B_X3_signCode_32  ⟨_, rfl, rfl, rfl⟩
  · rw [if_neg n0, if_neg n1, if_neg n2] at h
    cases h
    exact B_X3_signCode_40  ⟨_, rfl, rfl, rfl⟩
/-! StrayWool$Parser.variableOf(II)I -/
noncomputable def S_X3_variableOf_108 (σ : sw_St) (sx0 : Int32) : Option (Int32 × sw_St) :=
  some (sx0, σ)
theorem SC_X3_variableOf_108 {E : sw_E} {d : Nat} (hd : 0 ≤ d) {p : Int32 × sw_St} {σ : sw_St} {sx0 : Int32} (h : S_X3_variableOf_108 σ sx0 = some p) : sw_W E sw_gX m_X3_variableOf d 108 [] [.int sx0] σ (sw_pI p) := by
  unfold S_X3_variableOf_108 at h
  cases h
  exact B_X3_variableOf_108  ⟨_, rfl, rfl, rfl⟩
noncomputable def S_X3_variableOf_103 (σ : sw_St) : Option (Int32 × sw_St) :=
  S_X3_variableOf_108 σ 3
theorem SC_X3_variableOf_103 {E : sw_E} {d : Nat} (hd : 0 ≤ d) {p : Int32 × sw_St} {σ : sw_St} (h : S_X3_variableOf_103 σ  = some p) : sw_W E sw_gX m_X3_variableOf d 103 [] [] σ (sw_pI p) := by
  unfold S_X3_variableOf_103 at h
  refine B_X3_variableOf_103  ?_
  exact SC_X3_variableOf_108 hd h
noncomputable def S_X3_variableOf_192 (σ : sw_St) : Option (Int32 × sw_St) :=
  some ((-1), σ)
theorem SC_X3_variableOf_192 {E : sw_E} {d : Nat} (hd : 0 ≤ d) {p : Int32 × sw_St} {σ : sw_St} (h : S_X3_variableOf_192 σ  = some p) : sw_W E sw_gX m_X3_variableOf d 192 [] [] σ (sw_pI p) := by
  unfold S_X3_variableOf_192 at h
  cases h
  exact B_X3_variableOf_192  ⟨_, rfl, rfl, rfl⟩
noncomputable def S_X3_variableOf_133 (σ : sw_St) (sx0 : Int32) : Option (Int32 × sw_St) :=
  some (sx0, σ)
theorem SC_X3_variableOf_133 {E : sw_E} {d : Nat} (hd : 0 ≤ d) {p : Int32 × sw_St} {σ : sw_St} {sx0 : Int32} (h : S_X3_variableOf_133 σ sx0 = some p) : sw_W E sw_gX m_X3_variableOf d 133 [] [.int sx0] σ (sw_pI p) := by
  unfold S_X3_variableOf_133 at h
  cases h
  exact B_X3_variableOf_133  ⟨_, rfl, rfl, rfl⟩
noncomputable def S_X3_variableOf_191 (σ : sw_St) (sx0 : Int32) : Option (Int32 × sw_St) :=
  some (sx0, σ)
theorem SC_X3_variableOf_191 {E : sw_E} {d : Nat} (hd : 0 ≤ d) {p : Int32 × sw_St} {σ : sw_St} {sx0 : Int32} (h : S_X3_variableOf_191 σ sx0 = some p) : sw_W E sw_gX m_X3_variableOf d 191 [] [.int sx0] σ (sw_pI p) := by
  unfold S_X3_variableOf_191 at h
  cases h
  exact B_X3_variableOf_191  ⟨_, rfl, rfl, rfl⟩
noncomputable def S_X3_variableOf_123 (σ : sw_St) (sx0 : Int32) : Option (Int32 × sw_St) :=
  some (sx0, σ)
theorem SC_X3_variableOf_123 {E : sw_E} {d : Nat} (hd : 0 ≤ d) {p : Int32 × sw_St} {σ : sw_St} {sx0 : Int32} (h : S_X3_variableOf_123 σ sx0 = some p) : sw_W E sw_gX m_X3_variableOf d 123 [] [.int sx0] σ (sw_pI p) := by
  unfold S_X3_variableOf_123 at h
  cases h
  exact B_X3_variableOf_123  ⟨_, rfl, rfl, rfl⟩
noncomputable def S_X3_variableOf_118 (σ : sw_St) : Option (Int32 × sw_St) :=
  S_X3_variableOf_123 σ 4
theorem SC_X3_variableOf_118 {E : sw_E} {d : Nat} (hd : 0 ≤ d) {p : Int32 × sw_St} {σ : sw_St} (h : S_X3_variableOf_118 σ  = some p) : sw_W E sw_gX m_X3_variableOf d 118 [] [] σ (sw_pI p) := by
  unfold S_X3_variableOf_118 at h
  refine B_X3_variableOf_118  ?_
  exact SC_X3_variableOf_123 hd h
noncomputable def S_X3_variableOf_150 (σ : sw_St) (sx0 : Int32) : Option (Int32 × sw_St) :=
  some (sx0, σ)
theorem SC_X3_variableOf_150 {E : sw_E} {d : Nat} (hd : 0 ≤ d) {p : Int32 × sw_St} {σ : sw_St} {sx0 : Int32} (h : S_X3_variableOf_150 σ sx0 = some p) : sw_W E sw_gX m_X3_variableOf d 150 [] [.int sx0] σ (sw_pI p) := by
  unfold S_X3_variableOf_150 at h
  cases h
  exact B_X3_variableOf_150  ⟨_, rfl, rfl, rfl⟩
noncomputable def S_X3_variableOf_144 (σ : sw_St) : Option (Int32 × sw_St) :=
  S_X3_variableOf_150 σ 6
theorem SC_X3_variableOf_144 {E : sw_E} {d : Nat} (hd : 0 ≤ d) {p : Int32 × sw_St} {σ : sw_St} (h : S_X3_variableOf_144 σ  = some p) : sw_W E sw_gX m_X3_variableOf d 144 [] [] σ (sw_pI p) := by
  unfold S_X3_variableOf_144 at h
  refine B_X3_variableOf_144  ?_
  exact SC_X3_variableOf_150 hd h
noncomputable def S_X3_variableOf_167 (σ : sw_St) (sx0 : Int32) : Option (Int32 × sw_St) :=
  some (sx0, σ)
theorem SC_X3_variableOf_167 {E : sw_E} {d : Nat} (hd : 0 ≤ d) {p : Int32 × sw_St} {σ : sw_St} {sx0 : Int32} (h : S_X3_variableOf_167 σ sx0 = some p) : sw_W E sw_gX m_X3_variableOf d 167 [] [.int sx0] σ (sw_pI p) := by
  unfold S_X3_variableOf_167 at h
  cases h
  exact B_X3_variableOf_167  ⟨_, rfl, rfl, rfl⟩
noncomputable def S_X3_variableOf_161 (σ : sw_St) : Option (Int32 × sw_St) :=
  S_X3_variableOf_167 σ 7
theorem SC_X3_variableOf_161 {E : sw_E} {d : Nat} (hd : 0 ≤ d) {p : Int32 × sw_St} {σ : sw_St} (h : S_X3_variableOf_161 σ  = some p) : sw_W E sw_gX m_X3_variableOf d 161 [] [] σ (sw_pI p) := by
  unfold S_X3_variableOf_161 at h
  refine B_X3_variableOf_161  ?_
  exact SC_X3_variableOf_167 hd h
noncomputable def S_X3_variableOf_179 (σ : sw_St) (sx0 : Int32) : Option (Int32 × sw_St) :=
  some (sx0, σ)
theorem SC_X3_variableOf_179 {E : sw_E} {d : Nat} (hd : 0 ≤ d) {p : Int32 × sw_St} {σ : sw_St} {sx0 : Int32} (h : S_X3_variableOf_179 σ sx0 = some p) : sw_W E sw_gX m_X3_variableOf d 179 [] [.int sx0] σ (sw_pI p) := by
  unfold S_X3_variableOf_179 at h
  cases h
  exact B_X3_variableOf_179  ⟨_, rfl, rfl, rfl⟩
noncomputable def F_X3_variableOf (σ : sw_St) (x0 : Int32) (x1 : Int32) : Option (Int32 × sw_St) :=
  if x0 = 257 then (if x1 = 0 then (S_X3_variableOf_103 σ ) else (if x1 = 1 then (S_X3_variableOf_103 σ ) else (S_X3_variableOf_108 σ (-1)))) else if x0 = 258 then (S_X3_variableOf_192 σ ) else if x0 = 259 then (S_X3_variableOf_192 σ ) else if x0 = 260 then (if x1 = 0 then (S_X3_variableOf_133 σ 5) else (S_X3_variableOf_133 σ (-1))) else if x0 = 261 then (S_X3_variableOf_192 σ ) else if x0 = 262 then (S_X3_variableOf_192 σ ) else if x0 = 263 then (if x1 = 3 then (S_X3_variableOf_191 σ 9) else (S_X3_variableOf_191 σ (-1))) else if x0 = 264 then (some (0, σ)) else if x0 = 265 then (S_X3_variableOf_192 σ ) else if x0 = 266 then (S_X3_variableOf_192 σ ) else if x0 = 267 then (S_X3_variableOf_192 σ ) else if x0 = 268 then (S_X3_variableOf_192 σ ) else if x0 = 269 then (some (1, σ)) else if x0 = 270 then (some (2, σ)) else if x0 = 271 then (if x1 = 0 then (S_X3_variableOf_118 σ ) else (if x1 = 1 then (S_X3_variableOf_118 σ ) else (S_X3_variableOf_123 σ (-1)))) else if x0 = 272 then (if x1 = 2 then (S_X3_variableOf_144 σ ) else (if x1 = 3 then (S_X3_variableOf_144 σ ) else (S_X3_variableOf_150 σ (-1)))) else if x0 = 273 then (if x1 = 2 then (S_X3_variableOf_161 σ ) else (if x1 = 3 then (S_X3_variableOf_161 σ ) else (S_X3_variableOf_167 σ (-1)))) else if x0 = 274 then (if x1 = 3 then (S_X3_variableOf_179 σ 8) else (S_X3_variableOf_179 σ (-1))) else (S_X3_variableOf_192 σ )
theorem FC_X3_variableOf {E : sw_E} {d : Nat} (hd : 0 ≤ d) {p : Int32 × sw_St} {σ : sw_St} {x0 : Int32} {x1 : Int32} (h : F_X3_variableOf σ x0 x1 = some p) : sw_KI E sw_gX m_X3_variableOf d [.int x0, .int x1] σ (fun v s => v = p.1 ∧ s = p.2) := by
  unfold F_X3_variableOf at h
  refine sw_K.of (by decide +kernel) rfl (Nat.le_of_ble_eq_true rfl) ?_
  show sw_W E sw_gX m_X3_variableOf d 0 [(0, .int x0), (1, .int x1)] [] σ (sw_pI p)
  refine B_X3_variableOf_0  (fun hc => ?_) (fun hc => ?_) (fun hc => ?_) (fun hc => ?_) (fun hc => ?_) (fun hc => ?_) (fun hc => ?_) (fun hc => ?_) (fun hc => ?_) (fun hc => ?_) (fun hc => ?_) (fun hc => ?_) (fun hc => ?_) (fun hc => ?_) (fun hc => ?_) (fun hc => ?_) (fun hc => ?_) (fun hc => ?_) (fun n0 n1 n2 n3 n4 n5 n6 n7 n8 n9 n10 n11 n12 n13 n14 n15 n16 n17 => ?_)
  · rw [if_pos hc] at h
    refine B_X3_variableOf_94  (fun hc => ?_) (fun hc => ?_)
    · rw [if_pos hc] at h
      exact SC_X3_variableOf_103 hd h
    · rw [if_neg hc] at h
      refine B_X3_variableOf_98  (fun hc => ?_) (fun hc => ?_)
      · rw [if_neg hc] at h
        refine B_X3_variableOf_107  ?_
        exact SC_X3_variableOf_108 hd h
      · rw [if_pos hc] at h
        exact SC_X3_variableOf_103 hd h
  · rw [if_neg (fun z => absurd (hc.symm.trans z) (by decide)), if_pos hc] at h
    exact SC_X3_variableOf_192 hd h
  · rw [if_neg (fun z => absurd (hc.symm.trans z) (by decide)), if_neg (fun z => absurd (hc.symm.trans z) (by decide)), if_pos hc] at h
    exact SC_X3_variableOf_192 hd h
  · rw [if_neg (fun z => absurd (hc.symm.trans z) (by decide)), if_neg (fun z => absurd (hc.symm.trans z) (by decide)), if_neg (fun z => absurd (hc.symm.trans z) (by decide)), if_pos hc] at h
    refine B_X3_variableOf_124  (fun hc => ?_) (fun hc => ?_)
    · rw [if_neg hc] at h
      refine B_X3_variableOf_132  ?_
      exact SC_X3_variableOf_133 hd h
    · rw [if_pos hc] at h
      refine B_X3_variableOf_128  ?_
      exact SC_X3_variableOf_133 hd h
  · rw [if_neg (fun z => absurd (hc.symm.trans z) (by decide)), if_neg (fun z => absurd (hc.symm.trans z) (by decide)), if_neg (fun z => absurd (hc.symm.trans z) (by decide)), if_neg (fun z => absurd (hc.symm.trans z) (by decide)), if_pos hc] at h
    exact SC_X3_variableOf_192 hd h
  · rw [if_neg (fun z => absurd (hc.symm.trans z) (by decide)), if_neg (fun z => absurd (hc.symm.trans z) (by decide)), if_neg (fun z => absurd (hc.symm.trans z) (by decide)), if_neg (fun z => absurd (hc.symm.trans z) (by decide)), if_neg (fun z => absurd (hc.symm.trans z) (by decide)), if_pos hc] at h
    exact SC_X3_variableOf_192 hd h
  · rw [if_neg (fun z => absurd (hc.symm.trans z) (by decide)), if_neg (fun z => absurd (hc.symm.trans z) (by decide)), if_neg (fun z => absurd (hc.symm.trans z) (by decide)), if_neg (fun z => absurd (hc.symm.trans z) (by decide)), if_neg (fun z => absurd (hc.symm.trans z) (by decide)), if_neg (fun z => absurd (hc.symm.trans z) (by decide)), if_pos hc] at h
    refine B_X3_variableOf_180  (fun hc => ?_) (fun hc => ?_)
    · rw [if_neg hc] at h
      refine B_X3_variableOf_190  ?_
      exact SC_X3_variableOf_191 hd h
    · rw [if_pos hc] at h
      refine B_X3_variableOf_185  ?_
      exact SC_X3_variableOf_191 hd h
  · rw [if_neg (fun z => absurd (hc.symm.trans z) (by decide)), if_neg (fun z => absurd (hc.symm.trans z) (by decide)), if_neg (fun z => absurd (hc.symm.trans z) (by decide)), if_neg (fun z => absurd (hc.symm.trans z) (by decide)), if_neg (fun z => absurd (hc.symm.trans z) (by decide)), if_neg (fun z => absurd (hc.symm.trans z) (by decide)), if_neg (fun z => absurd (hc.symm.trans z) (by decide)), if_pos hc] at h
    cases h
    exact B_X3_variableOf_88  ⟨_, rfl, rfl, rfl⟩
  · rw [if_neg (fun z => absurd (hc.symm.trans z) (by decide)), if_neg (fun z => absurd (hc.symm.trans z) (by decide)), if_neg (fun z => absurd (hc.symm.trans z) (by decide)), if_neg (fun z => absurd (hc.symm.trans z) (by decide)), if_neg (fun z => absurd (hc.symm.trans z) (by decide)), if_neg (fun z => absurd (hc.symm.trans z) (by decide)), if_neg (fun z => absurd (hc.symm.trans z) (by decide)), if_neg (fun z => absurd (hc.symm.trans z) (by decide)), if_pos hc] at h
    exact SC_X3_variableOf_192 hd h
  · rw [if_neg (fun z => absurd (hc.symm.trans z) (by decide)), if_neg (fun z => absurd (hc.symm.trans z) (by decide)), if_neg (fun z => absurd (hc.symm.trans z) (by decide)), if_neg (fun z => absurd (hc.symm.trans z) (by decide)), if_neg (fun z => absurd (hc.symm.trans z) (by decide)), if_neg (fun z => absurd (hc.symm.trans z) (by decide)), if_neg (fun z => absurd (hc.symm.trans z) (by decide)), if_neg (fun z => absurd (hc.symm.trans z) (by decide)), if_neg (fun z => absurd (hc.symm.trans z) (by decide)), if_pos hc] at h
    exact SC_X3_variableOf_192 hd h
  · rw [if_neg (fun z => absurd (hc.symm.trans z) (by decide)), if_neg (fun z => absurd (hc.symm.trans z) (by decide)), if_neg (fun z => absurd (hc.symm.trans z) (by decide)), if_neg (fun z => absurd (hc.symm.trans z) (by decide)), if_neg (fun z => absurd (hc.symm.trans z) (by decide)), if_neg (fun z => absurd (hc.symm.trans z) (by decide)), if_neg (fun z => absurd (hc.symm.trans z) (by decide)), if_neg (fun z => absurd (hc.symm.trans z) (by decide)), if_neg (fun z => absurd (hc.symm.trans z) (by decide)), if_neg (fun z => absurd (hc.symm.trans z) (by decide)), if_pos hc] at h
    exact SC_X3_variableOf_192 hd h
  · rw [if_neg (fun z => absurd (hc.symm.trans z) (by decide)), if_neg (fun z => absurd (hc.symm.trans z) (by decide)), if_neg (fun z => absurd (hc.symm.trans z) (by decide)), if_neg (fun z => absurd (hc.symm.trans z) (by decide)), if_neg (fun z => absurd (hc.symm.trans z) (by decide)), if_neg (fun z => absurd (hc.symm.trans z) (by decide)), if_neg (fun z => absurd (hc.symm.trans z) (by decide)), if_neg (fun z => absurd (hc.symm.trans z) (by decide)), if_neg (fun z => absurd (hc.symm.trans z) (by decide)), if_neg (fun z => absurd (hc.symm.trans z) (by decide)), if_neg (fun z => absurd (hc.symm.trans z) (by decide)), if_pos hc] at h
    exact SC_X3_variableOf_192 hd h
  · rw [if_neg (fun z => absurd (hc.symm.trans z) (by decide)), if_neg (fun z => absurd (hc.symm.trans z) (by decide)), if_neg (fun z => absurd (hc.symm.trans z) (by decide)), if_neg (fun z => absurd (hc.symm.trans z) (by decide)), if_neg (fun z => absurd (hc.symm.trans z) (by decide)), if_neg (fun z => absurd (hc.symm.trans z) (by decide)), if_neg (fun z => absurd (hc.symm.trans z) (by decide)), if_neg (fun z => absurd (hc.symm.trans z) (by decide)), if_neg (fun z => absurd (hc.symm.trans z) (by decide)), if_neg (fun z => absurd (hc.symm.trans z) (by decide)), if_neg (fun z => absurd (hc.symm.trans z) (by decide)), if_neg (fun z => absurd (hc.symm.trans z) (by decide)), if_pos hc] at h
    cases h
    exact B_X3_variableOf_90  ⟨_, rfl, rfl, rfl⟩
  · rw [if_neg (fun z => absurd (hc.symm.trans z) (by decide)), if_neg (fun z => absurd (hc.symm.trans z) (by decide)), if_neg (fun z => absurd (hc.symm.trans z) (by decide)), if_neg (fun z => absurd (hc.symm.trans z) (by decide)), if_neg (fun z => absurd (hc.symm.trans z) (by decide)), if_neg (fun z => absurd (hc.symm.trans z) (by decide)), if_neg (fun z => absurd (hc.symm.trans z) (by decide)), if_neg (fun z => absurd (hc.symm.trans z) (by decide)), if_neg (fun z => absurd (hc.symm.trans z) (by decide)), if_neg (fun z => absurd (hc.symm.trans z) (by decide)), if_neg (fun z => absurd (hc.symm.trans z) (by decide)), if_neg (fun z => absurd (hc.symm.trans z) (by decide)), if_neg (fun z => absurd (hc.symm.trans z) (by decide)), if_pos hc] at h
    cases h
    exact B_X3_variableOf_92  ⟨_, rfl, rfl, rfl⟩
  · rw [if_neg (fun z => absurd (hc.symm.trans z) (by decide)), if_neg (fun z => absurd (hc.symm.trans z) (by decide)), if_neg (fun z => absurd (hc.symm.trans z) (by decide)), if_neg (fun z => absurd (hc.symm.trans z) (by decide)), if_neg (fun z => absurd (hc.symm.trans z) (by decide)), if_neg (fun z => absurd (hc.symm.trans z) (by decide)), if_neg (fun z => absurd (hc.symm.trans z) (by decide)), if_neg (fun z => absurd (hc.symm.trans z) (by decide)), if_neg (fun z => absurd (hc.symm.trans z) (by decide)), if_neg (fun z => absurd (hc.symm.trans z) (by decide)), if_neg (fun z => absurd (hc.symm.trans z) (by decide)), if_neg (fun z => absurd (hc.symm.trans z) (by decide)), if_neg (fun z => absurd (hc.symm.trans z) (by decide)), if_neg (fun z => absurd (hc.symm.trans z) (by decide)), if_pos hc] at h
    refine B_X3_variableOf_109  (fun hc => ?_) (fun hc => ?_)
    · rw [if_pos hc] at h
      exact SC_X3_variableOf_118 hd h
    · rw [if_neg hc] at h
      refine B_X3_variableOf_113  (fun hc => ?_) (fun hc => ?_)
      · rw [if_neg hc] at h
        refine B_X3_variableOf_122  ?_
        exact SC_X3_variableOf_123 hd h
      · rw [if_pos hc] at h
        exact SC_X3_variableOf_118 hd h
  · rw [if_neg (fun z => absurd (hc.symm.trans z) (by decide)), if_neg (fun z => absurd (hc.symm.trans z) (by decide)), if_neg (fun z => absurd (hc.symm.trans z) (by decide)), if_neg (fun z => absurd (hc.symm.trans z) (by decide)), if_neg (fun z => absurd (hc.symm.trans z) (by decide)), if_neg (fun z => absurd (hc.symm.trans z) (by decide)), if_neg (fun z => absurd (hc.symm.trans z) (by decide)), if_neg (fun z => absurd (hc.symm.trans z) (by decide)), if_neg (fun z => absurd (hc.symm.trans z) (by decide)), if_neg (fun z => absurd (hc.symm.trans z) (by decide)), if_neg (fun z => absurd (hc.symm.trans z) (by decide)), if_neg (fun z => absurd (hc.symm.trans z) (by decide)), if_neg (fun z => absurd (hc.symm.trans z) (by decide)), if_neg (fun z => absurd (hc.symm.trans z) (by decide)), if_neg (fun z => absurd (hc.symm.trans z) (by decide)), if_pos hc] at h
    refine B_X3_variableOf_134  (fun hc => ?_) (fun hc => ?_)
    · rw [if_pos hc] at h
      exact SC_X3_variableOf_144 hd h
    · rw [if_neg hc] at h
      refine B_X3_variableOf_139  (fun hc => ?_) (fun hc => ?_)
      · rw [if_neg hc] at h
        refine B_X3_variableOf_149  ?_
        exact SC_X3_variableOf_150 hd h
      · rw [if_pos hc] at h
        exact SC_X3_variableOf_144 hd h
  · rw [if_neg (fun z => absurd (hc.symm.trans z) (by decide)), if_neg (fun z => absurd (hc.symm.trans z) (by decide)), if_neg (fun z => absurd (hc.symm.trans z) (by decide)), if_neg (fun z => absurd (hc.symm.trans z) (by decide)), if_neg (fun z => absurd (hc.symm.trans z) (by decide)), if_neg (fun z => absurd (hc.symm.trans z) (by decide)), if_neg (fun z => absurd (hc.symm.trans z) (by decide)), if_neg (fun z => absurd (hc.symm.trans z) (by decide)), if_neg (fun z => absurd (hc.symm.trans z) (by decide)), if_neg (fun z => absurd (hc.symm.trans z) (by decide)), if_neg (fun z => absurd (hc.symm.trans z) (by decide)), if_neg (fun z => absurd (hc.symm.trans z) (by decide)), if_neg (fun z => absurd (hc.symm.trans z) (by decide)), if_neg (fun z => absurd (hc.symm.trans z) (by decide)), if_neg (fun z => absurd (hc.symm.trans z) (by decide)), if_neg (fun z => absurd (hc.symm.trans z) (by decide)), if_pos hc] at h
    refine B_X3_variableOf_151  (fun hc => ?_) (fun hc => ?_)
    · rw [if_pos hc] at h
      exact SC_X3_variableOf_161 hd h
    · rw [if_neg hc] at h
      refine B_X3_variableOf_156  (fun hc => ?_) (fun hc => ?_)
      · rw [if_neg hc] at h
        refine B_X3_variableOf_166  ?_
        exact SC_X3_variableOf_167 hd h
      · rw [if_pos hc] at h
        exact SC_X3_variableOf_161 hd h
  · rw [if_neg (fun z => absurd (hc.symm.trans z) (by decide)), if_neg (fun z => absurd (hc.symm.trans z) (by decide)), if_neg (fun z => absurd (hc.symm.trans z) (by decide)), if_neg (fun z => absurd (hc.symm.trans z) (by decide)), if_neg (fun z => absurd (hc.symm.trans z) (by decide)), if_neg (fun z => absurd (hc.symm.trans z) (by decide)), if_neg (fun z => absurd (hc.symm.trans z) (by decide)), if_neg (fun z => absurd (hc.symm.trans z) (by decide)), if_neg (fun z => absurd (hc.symm.trans z) (by decide)), if_neg (fun z => absurd (hc.symm.trans z) (by decide)), if_neg (fun z => absurd (hc.symm.trans z) (by decide)), if_neg (fun z => absurd (hc.symm.trans z) (by decide)), if_neg (fun z => absurd (hc.symm.trans z) (by decide)), if_neg (fun z => absurd (hc.symm.trans z) (by decide)), if_neg (fun z => absurd (hc.symm.trans z) (by decide)), if_neg (fun z => absurd (hc.symm.trans z) (by decide)), if_neg (fun z => absurd (hc.symm.trans z) (by decide)), if_pos hc] at h
    refine B_X3_variableOf_168  (fun hc => ?_) (fun hc => ?_)
    · rw [if_neg hc] at h
      refine B_X3_variableOf_178  ?_
      exact SC_X3_variableOf_179 hd h
    · rw [if_pos hc] at h
      refine B_X3_variableOf_173  ?_
      exact SC_X3_variableOf_179 hd h
  · rw [if_neg n0, if_neg n1, if_neg n2, if_neg n3, if_neg n4, if_neg n5, if_neg n6, if_neg n7, if_neg n8, if_neg n9, if_neg n10, if_neg n11, if_neg n12, if_neg n13, if_neg n14, if_neg n15, if_neg n16, if_neg n17] at h
    exact SC_X3_variableOf_192 hd h
/-! StrayWool$Past.clear()V -/
noncomputable def F_X4_clear (σ : sw_St) : Option (Unit × sw_St) :=
  some ((), (sw_uI σ 62 2 0))
theorem FC_X4_clear {E : sw_E} {d : Nat} (hd : 0 ≤ d) {p : Unit × sw_St} {σ : sw_St} (h : F_X4_clear σ  = some p) : sw_KV E sw_gX m_X4_clear d [.ref 62] σ (fun s => s = p.2) := by
  unfold F_X4_clear at h
  refine sw_K.of (by decide +kernel) rfl (Nat.le_of_ble_eq_true rfl) ?_
  show sw_W E sw_gX m_X4_clear d 0 [(0, .ref 62)] [] σ (sw_pV p)
  cases h
  exact B_X4_clear_0  ⟨rfl, rfl⟩
/-! StrayWool$Picture.put(II)V -/
noncomputable def S_X5_put_52 (σ : sw_St) : Option (Unit × sw_St) :=
  some ((), σ)
theorem SC_X5_put_52 {E : sw_E} {d : Nat} (hd : 0 ≤ d) {p : Unit × sw_St} {σ : sw_St} (h : S_X5_put_52 σ  = some p) : sw_W E sw_gX m_X5_put d 52 [] [] σ (sw_pV p) := by
  unfold S_X5_put_52 at h
  cases h
  exact B_X5_put_52  ⟨rfl, rfl⟩
noncomputable def S_X5_put_7 (c7 : sw_St → Int32 → Int32 → Option (Unit × sw_St)) (σ : sw_St) (x1 : Int32) (x3 : Int32) : Option (Unit × sw_St) :=
  if x3 < 0 then (S_X5_put_52 σ ) else (if 94 ≤ (σ.1 224 1) then (S_X5_put_52 σ ) else (if sw_inb (σ.1 224 1) 94 = true then (c7 (sw_uI (sw_uI σ 225 ((σ.1 224 1).toNatClampNeg) (((x1 >>> (x3 &&& 31)).toInt8.toInt32).toInt8.toInt32)) 224 1 ((σ.1 224 1) + 1)) x1 (x3 + (-8))) else none))
theorem SC_X5_put_7 {E : sw_E} {d : Nat} (hd : 0 ≤ d) {p : Unit × sw_St} {c7 : sw_St → Int32 → Int32 → Option (Unit × sw_St)} (h7 : ∀ (σ : sw_St) (x1 : Int32) (x3 : Int32), c7 σ x1 x3 = some p → sw_W E sw_gX m_X5_put d 7 [(0, .ref 224), (1, .int x1), (3, .int x3)] [] σ (sw_pV p)) {σ : sw_St} {x1 : Int32} {x3 : Int32} (h : S_X5_put_7 c7 σ x1 x3 = some p) : sw_W E sw_gX m_X5_put d 7 [(0, .ref 224), (1, .int x1), (3, .int x3)] [] σ (sw_pV p) := by
  unfold S_X5_put_7 at h
  refine B_X5_put_7  (fun hc => ?_) (fun hc => ?_)
  · rw [if_pos hc] at h
    exact SC_X5_put_52 hd h
  · rw [if_neg hc] at h
    refine B_X5_put_11  (fun hc => ?_) (fun hc => ?_)
    · rw [if_pos hc] at h
      exact SC_X5_put_52 hd h
    · rw [if_neg hc] at h
      obtain ⟨o1, h⟩ := sw_ifs h
      refine B_X5_put_23 (sw_inb_sp o1) ?_
      exact h7 _ _ _ h
noncomputable def L_X5_put_7 : Nat → sw_St → Int32 → Int32 → Option (Unit × sw_St)
  | 0, _, _, _ => none
  | k + 1, σ, x1, x3 => S_X5_put_7 (fun σ x1 x3 => L_X5_put_7 k σ x1 x3) σ x1 x3
theorem LC_X5_put_7 {E : sw_E} {d : Nat} (hd : 0 ≤ d) {p : Unit × sw_St} : ∀ (k : Nat) (σ : sw_St) (x1 : Int32) (x3 : Int32), L_X5_put_7 k σ x1 x3 = some p → sw_W E sw_gX m_X5_put d 7 [(0, .ref 224), (1, .int x1), (3, .int x3)] [] σ (sw_pV p) := by
  intro k
  induction k with
  | zero => intro σ x1 x3 h; cases h
  | succ k ih => intro σ x1 x3 h; exact SC_X5_put_7 hd ih h
noncomputable def F_X5_put (σ : sw_St) (x1 : Int32) (x2 : Int32) : Option (Unit × sw_St) :=
  L_X5_put_7 sw_fuel σ x1 (8 * (x2 - 1))
theorem FC_X5_put {E : sw_E} {d : Nat} (hd : 0 ≤ d) {p : Unit × sw_St} {σ : sw_St} {x1 : Int32} {x2 : Int32} (h : F_X5_put σ x1 x2 = some p) : sw_KV E sw_gX m_X5_put d [.ref 224, .int x1, .int x2] σ (fun s => s = p.2) := by
  unfold F_X5_put at h
  refine sw_K.of (by decide +kernel) rfl (Nat.le_of_ble_eq_true rfl) ?_
  show sw_W E sw_gX m_X5_put d 0 [(0, .ref 224), (1, .int x1), (2, .int x2)] [] σ (sw_pV p)
  refine B_X5_put_0  ?_
  exact LC_X5_put_7 hd _ _ _ _ h
/-! StrayWool$Picture.checkOf([BI)I -/
noncomputable def S_X5_checkOf_39 (σ : sw_St) (x2 : Int32) : Option (Int32 × sw_St) :=
  some (x2, σ)
theorem SC_X5_checkOf_39 {E : sw_E} {d : Nat} (hd : 0 ≤ d) {p : Int32 × sw_St} {σ : sw_St} {x2 : Int32} (h : S_X5_checkOf_39 σ x2 = some p) : sw_W E sw_gX m_X5_checkOf d 39 [(2, .int x2)] [] σ (sw_pI p) := by
  unfold S_X5_checkOf_39 at h
  cases h
  exact B_X5_checkOf_39  ⟨_, rfl, rfl, rfl⟩
noncomputable def S_X5_checkOf_6 (c6 : sw_St → Nat → Int32 → Int32 → Int32 → Option (Int32 × sw_St)) (σ : sw_St) (o0 : Nat) (x1 : Int32) (x2 : Int32) (x3 : Int32) : Option (Int32 × sw_St) :=
  if x1 ≤ x3 then (S_X5_checkOf_39 σ x2) else (if (sw_isA sw_gX o0 0 || sw_isA sw_gX o0 1 || sw_isA sw_gX o0 2 || sw_isA sw_gX o0 3) = true then (if (nI (sw_ln sw_gX o0)) ≤ x3 then (S_X5_checkOf_39 σ x2) else (if sw_isA sw_gX o0 1 = true then (if sw_inb x3 (sw_ln sw_gX o0) = true then (c6 σ o0 x1 (((3 * x2) + ((σ.1 o0 x3.toNatClampNeg) &&& 255)) - ((3 * x2) + ((σ.1 o0 x3.toNatClampNeg) &&& 255)) / 251 * 251) (x3 + 1)) else none) else none)) else none)
theorem SC_X5_checkOf_6 {E : sw_E} {d : Nat} (hd : 0 ≤ d) {p : Int32 × sw_St} {c6 : sw_St → Nat → Int32 → Int32 → Int32 → Option (Int32 × sw_St)} (h6 : ∀ (σ : sw_St) (o0 : Nat) (x1 : Int32) (x2 : Int32) (x3 : Int32), c6 σ o0 x1 x2 x3 = some p → sw_W E sw_gX m_X5_checkOf d 6 [(0, .ref o0), (1, .int x1), (2, .int x2), (3, .int x3)] [] σ (sw_pI p)) {σ : sw_St} {o0 : Nat} {x1 : Int32} {x2 : Int32} {x3 : Int32} (h : S_X5_checkOf_6 c6 σ o0 x1 x2 x3 = some p) : sw_W E sw_gX m_X5_checkOf d 6 [(0, .ref o0), (1, .int x1), (2, .int x2), (3, .int x3)] [] σ (sw_pI p) := by
  unfold S_X5_checkOf_6 at h
  refine B_X5_checkOf_6  (fun hc => ?_) (fun hc => ?_)
  · rw [if_pos hc] at h
    exact SC_X5_checkOf_39 hd h
  · rw [if_neg hc] at h
    obtain ⟨o1, h⟩ := sw_ifs h
    refine B_X5_checkOf_11 o1 (fun hc => ?_) (fun hc => ?_)
    · rw [if_pos hc] at h
      exact SC_X5_checkOf_39 hd h
    · rw [if_neg hc] at h
      obtain ⟨o2, h⟩ := sw_ifs h
      obtain ⟨o3, h⟩ := sw_ifs h
      refine B_X5_checkOf_17 o2 (sw_inb_sp o3) ?_
      exact h6 _ _ _ _ _ h
noncomputable def L_X5_checkOf_6 : Nat → sw_St → Nat → Int32 → Int32 → Int32 → Option (Int32 × sw_St)
  | 0, _, _, _, _, _ => none
  | k + 1, σ, o0, x1, x2, x3 => S_X5_checkOf_6 (fun σ o0 x1 x2 x3 => L_X5_checkOf_6 k σ o0 x1 x2 x3) σ o0 x1 x2 x3
theorem LC_X5_checkOf_6 {E : sw_E} {d : Nat} (hd : 0 ≤ d) {p : Int32 × sw_St} : ∀ (k : Nat) (σ : sw_St) (o0 : Nat) (x1 : Int32) (x2 : Int32) (x3 : Int32), L_X5_checkOf_6 k σ o0 x1 x2 x3 = some p → sw_W E sw_gX m_X5_checkOf d 6 [(0, .ref o0), (1, .int x1), (2, .int x2), (3, .int x3)] [] σ (sw_pI p) := by
  intro k
  induction k with
  | zero => intro σ o0 x1 x2 x3 h; cases h
  | succ k ih => intro σ o0 x1 x2 x3 h; exact SC_X5_checkOf_6 hd ih h
noncomputable def F_X5_checkOf (σ : sw_St) (o0 : Nat) (x1 : Int32) : Option (Int32 × sw_St) :=
  L_X5_checkOf_6 sw_fuel σ o0 x1 227 0
theorem FC_X5_checkOf {E : sw_E} {d : Nat} (hd : 0 ≤ d) {p : Int32 × sw_St} {σ : sw_St} {o0 : Nat} {x1 : Int32} (h : F_X5_checkOf σ o0 x1 = some p) : sw_KI E sw_gX m_X5_checkOf d [.ref o0, .int x1] σ (fun v s => v = p.1 ∧ s = p.2) := by
  unfold F_X5_checkOf at h
  refine sw_K.of (by decide +kernel) rfl (Nat.le_of_ble_eq_true rfl) ?_
  show sw_W E sw_gX m_X5_checkOf d 0 [(0, .ref o0), (1, .int x1)] [] σ (sw_pI p)
  refine B_X5_checkOf_0  ?_
  exact LC_X5_checkOf_6 hd _ _ _ _ _ _ h
/-! StrayWool$Picture.take([BII)I -/
noncomputable def S_X5_take_55 (σ : sw_St) (x3 : Int32) (x4 : Int32) : Option (Int32 × sw_St) :=
  if x4 ≤ x3 then (some (x4, σ)) else (some (0, (sw_uI σ 224 3 0)))
theorem SC_X5_take_55 {E : sw_E} {d : Nat} (hd : 0 ≤ d) {p : Int32 × sw_St} {σ : sw_St} {x3 : Int32} {x4 : Int32} (h : S_X5_take_55 σ x3 x4 = some p) : sw_W E sw_gX m_X5_take d 55 [(0, .ref 224), (3, .int x3), (4, .int x4)] [] σ (sw_pI p) := by
  unfold S_X5_take_55 at h
  refine B_X5_take_55  (fun hc => ?_) (fun hc => ?_)
  · rw [if_pos hc] at h
    cases h
    exact B_X5_take_68  ⟨_, rfl, rfl, rfl⟩
  · rw [if_neg hc] at h
    cases h
    exact B_X5_take_61  ⟨_, rfl, rfl, rfl⟩
noncomputable def S_X5_take_6 (c6 : sw_St → Nat → Int32 → Int32 → Int32 → Int32 → Option (Int32 × sw_St)) (σ : sw_St) (o1 : Nat) (x2 : Int32) (x3 : Int32) (x4 : Int32) (x5 : Int32) : Option (Int32 × sw_St) :=
  if x2 ≤ x5 then (S_X5_take_55 σ x3 x4) else (if (sw_isA sw_gX o1 0 || sw_isA sw_gX o1 1 || sw_isA sw_gX o1 2 || sw_isA sw_gX o1 3) = true then (if (nI (sw_ln sw_gX o1)) ≤ (σ.1 224 2) then (S_X5_take_55 σ x3 x4) else (if sw_isA sw_gX o1 1 = true then (if sw_inb (σ.1 224 2) (sw_ln sw_gX o1) = true then (c6 (sw_uI σ 224 2 ((σ.1 224 2) + 1)) o1 x2 x3 ((x4 <<< (8 &&& 31)) ||| ((σ.1 o1 ((σ.1 224 2).toNatClampNeg)) &&& 255)) (x5 + 1)) else none) else none)) else none)
theorem SC_X5_take_6 {E : sw_E} {d : Nat} (hd : 0 ≤ d) {p : Int32 × sw_St} {c6 : sw_St → Nat → Int32 → Int32 → Int32 → Int32 → Option (Int32 × sw_St)} (h6 : ∀ (σ : sw_St) (o1 : Nat) (x2 : Int32) (x3 : Int32) (x4 : Int32) (x5 : Int32), c6 σ o1 x2 x3 x4 x5 = some p → sw_W E sw_gX m_X5_take d 6 [(0, .ref 224), (1, .ref o1), (2, .int x2), (3, .int x3), (4, .int x4), (5, .int x5)] [] σ (sw_pI p)) {σ : sw_St} {o1 : Nat} {x2 : Int32} {x3 : Int32} {x4 : Int32} {x5 : Int32} (h : S_X5_take_6 c6 σ o1 x2 x3 x4 x5 = some p) : sw_W E sw_gX m_X5_take d 6 [(0, .ref 224), (1, .ref o1), (2, .int x2), (3, .int x3), (4, .int x4), (5, .int x5)] [] σ (sw_pI p) := by
  unfold S_X5_take_6 at h
  refine B_X5_take_6  (fun hc => ?_) (fun hc => ?_)
  · rw [if_pos hc] at h
    exact SC_X5_take_55 hd h
  · rw [if_neg hc] at h
    obtain ⟨o1, h⟩ := sw_ifs h
    refine B_X5_take_12 o1 (fun hc => ?_) (fun hc => ?_)
    · rw [if_pos hc] at h
      exact SC_X5_take_55 hd h
    · rw [if_neg hc] at h
      obtain ⟨o2, h⟩ := sw_ifs h
      obtain ⟨o3, h⟩ := sw_ifs h
      refine B_X5_take_21 o2 (sw_inb_sp o3) ?_
      exact h6 _ _ _ _ _ _ h
noncomputable def L_X5_take_6 : Nat → sw_St → Nat → Int32 → Int32 → Int32 → Int32 → Option (Int32 × sw_St)
  | 0, _, _, _, _, _, _ => none
  | k + 1, σ, o1, x2, x3, x4, x5 => S_X5_take_6 (fun σ o1 x2 x3 x4 x5 => L_X5_take_6 k σ o1 x2 x3 x4 x5) σ o1 x2 x3 x4 x5
theorem LC_X5_take_6 {E : sw_E} {d : Nat} (hd : 0 ≤ d) {p : Int32 × sw_St} : ∀ (k : Nat) (σ : sw_St) (o1 : Nat) (x2 : Int32) (x3 : Int32) (x4 : Int32) (x5 : Int32), L_X5_take_6 k σ o1 x2 x3 x4 x5 = some p → sw_W E sw_gX m_X5_take d 6 [(0, .ref 224), (1, .ref o1), (2, .int x2), (3, .int x3), (4, .int x4), (5, .int x5)] [] σ (sw_pI p) := by
  intro k
  induction k with
  | zero => intro σ o1 x2 x3 x4 x5 h; cases h
  | succ k ih => intro σ o1 x2 x3 x4 x5 h; exact SC_X5_take_6 hd ih h
noncomputable def F_X5_take (σ : sw_St) (o1 : Nat) (x2 : Int32) (x3 : Int32) : Option (Int32 × sw_St) :=
  L_X5_take_6 sw_fuel σ o1 x2 x3 0 0
theorem FC_X5_take {E : sw_E} {d : Nat} (hd : 0 ≤ d) {p : Int32 × sw_St} {σ : sw_St} {o1 : Nat} {x2 : Int32} {x3 : Int32} (h : F_X5_take σ o1 x2 x3 = some p) : sw_KI E sw_gX m_X5_take d [.ref 224, .ref o1, .int x2, .int x3] σ (fun v s => v = p.1 ∧ s = p.2) := by
  unfold F_X5_take at h
  refine sw_K.of (by decide +kernel) rfl (Nat.le_of_ble_eq_true rfl) ?_
  show sw_W E sw_gX m_X5_take d 0 [(0, .ref 224), (1, .ref o1), (2, .int x2), (3, .int x3)] [] σ (sw_pI p)
  refine B_X5_take_0  ?_
  exact LC_X5_take_6 hd _ _ _ _ _ _ _ h
/-! StrayWool$Reader.isLetter(I)Z -/
noncomputable def S_X6_isLetter_27 (σ : sw_St) (sx0 : Int32) : Option (Int32 × sw_St) :=
  if sx0 = 0 ∨ sx0 = 1 then some (sx0, σ) else none
theorem SC_X6_isLetter_27 {E : sw_E} {d : Nat} (hd : 0 ≤ d) {p : Int32 × sw_St} {σ : sw_St} {sx0 : Int32} (h : S_X6_isLetter_27 σ sx0 = some p) : sw_W E sw_gX m_X6_isLetter d 27 [] [.int sx0] σ (sw_pI p) := by
  unfold S_X6_isLetter_27 at h
  obtain ⟨hz, h⟩ := sw_ifs h
  cases h
  exact B_X6_isLetter_27  hz ⟨_, rfl, rfl, rfl⟩
noncomputable def S_X6_isLetter_26 (σ : sw_St) : Option (Int32 × sw_St) :=
  S_X6_isLetter_27 σ 0
theorem SC_X6_isLetter_26 {E : sw_E} {d : Nat} (hd : 0 ≤ d) {p : Int32 × sw_St} {σ : sw_St} (h : S_X6_isLetter_26 σ  = some p) : sw_W E sw_gX m_X6_isLetter d 26 [] [] σ (sw_pI p) := by
  unfold S_X6_isLetter_26 at h
  refine B_X6_isLetter_26  ?_
  exact SC_X6_isLetter_27 hd h
noncomputable def F_X6_isLetter (σ : sw_St) (x1 : Int32) : Option (Int32 × sw_St) :=
  (σ.2.2 2 0).bind fun w1 => (if sw_isA sw_gX w1 1 = true then (if sw_inb x1 (sw_ln sw_gX w1) = true then (if (σ.1 w1 x1.toNatClampNeg) < 97 then (S_X6_isLetter_26 σ ) else ((σ.2.2 2 0).bind fun w4 => (if sw_isA sw_gX w4 1 = true then (if sw_inb x1 (sw_ln sw_gX w4) = true then (if 122 < (σ.1 w4 x1.toNatClampNeg) then (S_X6_isLetter_26 σ ) else (S_X6_isLetter_27 σ 1)) else none) else none))) else none) else none)
theorem FC_X6_isLetter {E : sw_E} {d : Nat} (hd : 0 ≤ d) {p : Int32 × sw_St} {σ : sw_St} {x1 : Int32} (h : F_X6_isLetter σ x1 = some p) : sw_KI E sw_gX m_X6_isLetter d [.ref 2, .int x1] σ (fun v s => v = p.1 ∧ s = p.2) := by
  unfold F_X6_isLetter at h
  refine sw_K.of (by decide +kernel) rfl (Nat.le_of_ble_eq_true rfl) ?_
  show sw_W E sw_gX m_X6_isLetter d 0 [(0, .ref 2), (1, .int x1)] [] σ (sw_pI p)
  obtain ⟨w1, ow1, h⟩ := sw_bnd h
  obtain ⟨o2, h⟩ := sw_ifs h
  obtain ⟨o3, h⟩ := sw_ifs h
  refine B_X6_isLetter_0 ow1 o2 (sw_inb_sp o3) (fun hc => ?_) (fun hc => ?_)
  · rw [if_pos hc] at h
    exact SC_X6_isLetter_26 hd h
  · rw [if_neg hc] at h
    obtain ⟨w4, ow4, h⟩ := sw_bnd h
    obtain ⟨o5, h⟩ := sw_ifs h
    obtain ⟨o6, h⟩ := sw_ifs h
    refine B_X6_isLetter_11 ow4 o5 (sw_inb_sp o6) (fun hc => ?_) (fun hc => ?_)
    · rw [if_pos hc] at h
      exact SC_X6_isLetter_26 hd h
    · rw [if_neg hc] at h
      refine B_X6_isLetter_22  ?_
      exact SC_X6_isLetter_27 hd h
/-! StrayWool$Reader.isDigit(I)Z -/
noncomputable def S_X6_isDigit_27 (σ : sw_St) (sx0 : Int32) : Option (Int32 × sw_St) :=
  if sx0 = 0 ∨ sx0 = 1 then some (sx0, σ) else none
theorem SC_X6_isDigit_27 {E : sw_E} {d : Nat} (hd : 0 ≤ d) {p : Int32 × sw_St} {σ : sw_St} {sx0 : Int32} (h : S_X6_isDigit_27 σ sx0 = some p) : sw_W E sw_gX m_X6_isDigit d 27 [] [.int sx0] σ (sw_pI p) := by
  unfold S_X6_isDigit_27 at h
  obtain ⟨hz, h⟩ := sw_ifs h
  cases h
  exact B_X6_isDigit_27  hz ⟨_, rfl, rfl, rfl⟩
noncomputable def S_X6_isDigit_26 (σ : sw_St) : Option (Int32 × sw_St) :=
  S_X6_isDigit_27 σ 0
theorem SC_X6_isDigit_26 {E : sw_E} {d : Nat} (hd : 0 ≤ d) {p : Int32 × sw_St} {σ : sw_St} (h : S_X6_isDigit_26 σ  = some p) : sw_W E sw_gX m_X6_isDigit d 26 [] [] σ (sw_pI p) := by
  unfold S_X6_isDigit_26 at h
  refine B_X6_isDigit_26  ?_
  exact SC_X6_isDigit_27 hd h
noncomputable def F_X6_isDigit (σ : sw_St) (x1 : Int32) : Option (Int32 × sw_St) :=
  (σ.2.2 2 0).bind fun w1 => (if sw_isA sw_gX w1 1 = true then (if sw_inb x1 (sw_ln sw_gX w1) = true then (if (σ.1 w1 x1.toNatClampNeg) < 48 then (S_X6_isDigit_26 σ ) else ((σ.2.2 2 0).bind fun w4 => (if sw_isA sw_gX w4 1 = true then (if sw_inb x1 (sw_ln sw_gX w4) = true then (if 57 < (σ.1 w4 x1.toNatClampNeg) then (S_X6_isDigit_26 σ ) else (S_X6_isDigit_27 σ 1)) else none) else none))) else none) else none)
theorem FC_X6_isDigit {E : sw_E} {d : Nat} (hd : 0 ≤ d) {p : Int32 × sw_St} {σ : sw_St} {x1 : Int32} (h : F_X6_isDigit σ x1 = some p) : sw_KI E sw_gX m_X6_isDigit d [.ref 2, .int x1] σ (fun v s => v = p.1 ∧ s = p.2) := by
  unfold F_X6_isDigit at h
  refine sw_K.of (by decide +kernel) rfl (Nat.le_of_ble_eq_true rfl) ?_
  show sw_W E sw_gX m_X6_isDigit d 0 [(0, .ref 2), (1, .int x1)] [] σ (sw_pI p)
  obtain ⟨w1, ow1, h⟩ := sw_bnd h
  obtain ⟨o2, h⟩ := sw_ifs h
  obtain ⟨o3, h⟩ := sw_ifs h
  refine B_X6_isDigit_0 ow1 o2 (sw_inb_sp o3) (fun hc => ?_) (fun hc => ?_)
  · rw [if_pos hc] at h
    exact SC_X6_isDigit_26 hd h
  · rw [if_neg hc] at h
    obtain ⟨w4, ow4, h⟩ := sw_bnd h
    obtain ⟨o5, h⟩ := sw_ifs h
    obtain ⟨o6, h⟩ := sw_ifs h
    refine B_X6_isDigit_11 ow4 o5 (sw_inb_sp o6) (fun hc => ?_) (fun hc => ?_)
    · rw [if_pos hc] at h
      exact SC_X6_isDigit_26 hd h
    · rw [if_neg hc] at h
      refine B_X6_isDigit_22  ?_
      exact SC_X6_isDigit_27 hd h
/-! StrayWool$Reader.wordKind()I -/
noncomputable def S_X6_wordKind_99 (c14 : sw_St → Int32 → Int32 → Int32 → Int32 → Option (Int32 × sw_St)) (σ : sw_St) (x1 : Int32) (x2 : Int32) (x3 : Int32) (x4 : Int32) : Option (Int32 × sw_St) :=
  c14 σ x1 x2 x3 (x4 + 1)
theorem SC_X6_wordKind_99 {E : sw_E} {d : Nat} (hd : 4 ≤ d) {p : Int32 × sw_St} {c14 : sw_St → Int32 → Int32 → Int32 → Int32 → Option (Int32 × sw_St)} (h14 : ∀ (σ : sw_St) (x1 : Int32) (x2 : Int32) (x3 : Int32) (x4 : Int32), c14 σ x1 x2 x3 x4 = some p → sw_W E sw_gX m_X6_wordKind d 14 [(0, .ref 2), (1, .int x1), (2, .int x2), (3, .int x3), (4, .int x4)] [] σ (sw_pI p)) {σ : sw_St} {x1 : Int32} {x2 : Int32} {x3 : Int32} {x4 : Int32} (h : S_X6_wordKind_99 c14 σ x1 x2 x3 x4 = some p) : sw_W E sw_gX m_X6_wordKind d 99 [(0, .ref 2), (1, .int x1), (2, .int x2), (3, .int x3), (4, .int x4)] [] σ (sw_pI p) := by
  unfold S_X6_wordKind_99 at h
  refine B_X6_wordKind_99  ?_
  exact h14 _ _ _ _ _ h
noncomputable def S_X6_wordKind_89 (c14 : sw_St → Int32 → Int32 → Int32 → Int32 → Option (Int32 × sw_St)) (σ : sw_St) (x1 : Int32) (x4 : Int32) : Option (Int32 × sw_St) :=
  S_X6_wordKind_99 c14 σ (x1 + 1) (σ.1 2 3) 1 x4
theorem SC_X6_wordKind_89 {E : sw_E} {d : Nat} (hd : 4 ≤ d) {p : Int32 × sw_St} {c14 : sw_St → Int32 → Int32 → Int32 → Int32 → Option (Int32 × sw_St)} (h14 : ∀ (σ : sw_St) (x1 : Int32) (x2 : Int32) (x3 : Int32) (x4 : Int32), c14 σ x1 x2 x3 x4 = some p → sw_W E sw_gX m_X6_wordKind d 14 [(0, .ref 2), (1, .int x1), (2, .int x2), (3, .int x3), (4, .int x4)] [] σ (sw_pI p)) {σ : sw_St} {x1 : Int32} {x4 : Int32} (h : S_X6_wordKind_89 c14 σ x1 x4 = some p) : sw_W E sw_gX m_X6_wordKind d 89 [(0, .ref 2), (1, .int x1), (4, .int x4)] [] σ (sw_pI p) := by
  unfold S_X6_wordKind_89 at h
  refine B_X6_wordKind_89  ?_
  exact SC_X6_wordKind_99 hd h14 h
noncomputable def S_X6_wordKind_68 (c14 : sw_St → Int32 → Int32 → Int32 → Int32 → Option (Int32 × sw_St)) (σ : sw_St) (x1 : Int32) (x2 : Int32) (x4 : Int32) (sx0 : Int32) : Option (Int32 × sw_St) :=
  S_X6_wordKind_99 c14 σ x1 (x2 + 1) sx0 x4
theorem SC_X6_wordKind_68 {E : sw_E} {d : Nat} (hd : 4 ≤ d) {p : Int32 × sw_St} {c14 : sw_St → Int32 → Int32 → Int32 → Int32 → Option (Int32 × sw_St)} (h14 : ∀ (σ : sw_St) (x1 : Int32) (x2 : Int32) (x3 : Int32) (x4 : Int32), c14 σ x1 x2 x3 x4 = some p → sw_W E sw_gX m_X6_wordKind d 14 [(0, .ref 2), (1, .int x1), (2, .int x2), (3, .int x3), (4, .int x4)] [] σ (sw_pI p)) {σ : sw_St} {x1 : Int32} {x2 : Int32} {x4 : Int32} {sx0 : Int32} (h : S_X6_wordKind_68 c14 σ x1 x2 x4 sx0 = some p) : sw_W E sw_gX m_X6_wordKind d 68 [(0, .ref 2), (1, .int x1), (2, .int x2), (4, .int x4)] [.int sx0] σ (sw_pI p) := by
  unfold S_X6_wordKind_68 at h
  refine B_X6_wordKind_68  ?_
  exact SC_X6_wordKind_99 hd h14 h
noncomputable def S_X6_wordKind_67 (c14 : sw_St → Int32 → Int32 → Int32 → Int32 → Option (Int32 × sw_St)) (σ : sw_St) (x1 : Int32) (x2 : Int32) (x4 : Int32) : Option (Int32 × sw_St) :=
  S_X6_wordKind_68 c14 σ x1 x2 x4 0
theorem SC_X6_wordKind_67 {E : sw_E} {d : Nat} (hd : 4 ≤ d) {p : Int32 × sw_St} {c14 : sw_St → Int32 → Int32 → Int32 → Int32 → Option (Int32 × sw_St)} (h14 : ∀ (σ : sw_St) (x1 : Int32) (x2 : Int32) (x3 : Int32) (x4 : Int32), c14 σ x1 x2 x3 x4 = some p → sw_W E sw_gX m_X6_wordKind d 14 [(0, .ref 2), (1, .int x1), (2, .int x2), (3, .int x3), (4, .int x4)] [] σ (sw_pI p)) {σ : sw_St} {x1 : Int32} {x2 : Int32} {x4 : Int32} (h : S_X6_wordKind_67 c14 σ x1 x2 x4 = some p) : sw_W E sw_gX m_X6_wordKind d 67 [(0, .ref 2), (1, .int x1), (2, .int x2), (4, .int x4)] [] σ (sw_pI p) := by
  unfold S_X6_wordKind_67 at h
  refine B_X6_wordKind_67  ?_
  exact SC_X6_wordKind_68 hd h14 h
noncomputable def S_X6_wordKind_14 (c14 : sw_St → Int32 → Int32 → Int32 → Int32 → Option (Int32 × sw_St)) (σ : sw_St) (x1 : Int32) (x2 : Int32) (x3 : Int32) (x4 : Int32) : Option (Int32 × sw_St) :=
  if (158 : Int32) ≤ x4 then (some (287, σ)) else (if sw_inb x4 158 = true then (if (sw_wd x4.toNatClampNeg) = 32 then (if x3 = 0 then (S_X6_wordKind_89 c14 σ x1 x4) else (if x2 = (σ.1 2 4) then (some (x1, σ)) else (S_X6_wordKind_89 c14 σ x1 x4))) else (if x3 = 0 then (S_X6_wordKind_67 c14 σ x1 x2 x4) else (if (σ.1 2 4) ≤ x2 then (S_X6_wordKind_67 c14 σ x1 x2 x4) else ((σ.2.2 2 0).bind fun w2 => (if sw_isA sw_gX w2 1 = true then (if sw_inb x2 (sw_ln sw_gX w2) = true then (if (σ.1 w2 x2.toNatClampNeg) = (sw_wd x4.toNatClampNeg) then (S_X6_wordKind_68 c14 σ x1 x2 x4 1) else (S_X6_wordKind_67 c14 σ x1 x2 x4)) else none) else none))))) else none)
theorem SC_X6_wordKind_14 {E : sw_E} {d : Nat} (hd : 4 ≤ d) {p : Int32 × sw_St} {c14 : sw_St → Int32 → Int32 → Int32 → Int32 → Option (Int32 × sw_St)} (h14 : ∀ (σ : sw_St) (x1 : Int32) (x2 : Int32) (x3 : Int32) (x4 : Int32), c14 σ x1 x2 x3 x4 = some p → sw_W E sw_gX m_X6_wordKind d 14 [(0, .ref 2), (1, .int x1), (2, .int x2), (3, .int x3), (4, .int x4)] [] σ (sw_pI p)) {σ : sw_St} {x1 : Int32} {x2 : Int32} {x3 : Int32} {x4 : Int32} (h : S_X6_wordKind_14 c14 σ x1 x2 x3 x4 = some p) : sw_W E sw_gX m_X6_wordKind d 14 [(0, .ref 2), (1, .int x1), (2, .int x2), (3, .int x3), (4, .int x4)] [] σ (sw_pI p) := by
  unfold S_X6_wordKind_14 at h
  refine B_X6_wordKind_14  (Nat.le_trans (by decide) hd) ?_
  refine B_X6_wordKind_21  (fun hc => ?_) (fun hc => ?_)
  · rw [if_pos hc] at h
    cases h
    exact B_X6_wordKind_105  ⟨_, rfl, rfl, rfl⟩
  · rw [if_neg hc] at h
    obtain ⟨o1, h⟩ := sw_ifs h
    refine B_X6_wordKind_24  (sw_inb_sp o1) (Nat.le_trans (by decide) hd) ?_
    refine B_X6_wordKind_31  (fun hc => ?_) (fun hc => ?_)
    · rw [if_pos hc] at h
      refine B_X6_wordKind_75  (fun hc => ?_) (fun hc => ?_)
      · rw [if_pos hc] at h
        exact SC_X6_wordKind_89 hd h14 h
      · rw [if_neg hc] at h
        refine B_X6_wordKind_79  (fun hc => ?_) (fun hc => ?_)
        · rw [if_neg hc] at h
          exact SC_X6_wordKind_89 hd h14 h
        · rw [if_pos hc] at h
          cases h
          exact B_X6_wordKind_87  ⟨_, rfl, rfl, rfl⟩
    · rw [if_neg hc] at h
      refine B_X6_wordKind_40  (fun hc => ?_) (fun hc => ?_)
      · rw [if_pos hc] at h
        exact SC_X6_wordKind_67 hd h14 h
      · rw [if_neg hc] at h
        refine B_X6_wordKind_44  (fun hc => ?_) (fun hc => ?_)
        · rw [if_pos hc] at h
          exact SC_X6_wordKind_67 hd h14 h
        · rw [if_neg hc] at h
          obtain ⟨w2, ow2, h⟩ := sw_bnd h
          obtain ⟨o3, h⟩ := sw_ifs h
          obtain ⟨o4, h⟩ := sw_ifs h
          refine B_X6_wordKind_52 ow2 o3 (sw_inb_sp o4) (fun hc => ?_) (fun hc => ?_)
          · rw [if_neg hc] at h
            exact SC_X6_wordKind_67 hd h14 h
          · rw [if_pos hc] at h
            refine B_X6_wordKind_63  ?_
            exact SC_X6_wordKind_68 hd h14 h
noncomputable def L_X6_wordKind_14 : Nat → sw_St → Int32 → Int32 → Int32 → Int32 → Option (Int32 × sw_St)
  | 0, _, _, _, _, _ => none
  | k + 1, σ, x1, x2, x3, x4 => S_X6_wordKind_14 (fun σ x1 x2 x3 x4 => L_X6_wordKind_14 k σ x1 x2 x3 x4) σ x1 x2 x3 x4
theorem LC_X6_wordKind_14 {E : sw_E} {d : Nat} (hd : 4 ≤ d) {p : Int32 × sw_St} : ∀ (k : Nat) (σ : sw_St) (x1 : Int32) (x2 : Int32) (x3 : Int32) (x4 : Int32), L_X6_wordKind_14 k σ x1 x2 x3 x4 = some p → sw_W E sw_gX m_X6_wordKind d 14 [(0, .ref 2), (1, .int x1), (2, .int x2), (3, .int x3), (4, .int x4)] [] σ (sw_pI p) := by
  intro k
  induction k with
  | zero => intro σ x1 x2 x3 x4 h; cases h
  | succ k ih => intro σ x1 x2 x3 x4 h; exact SC_X6_wordKind_14 hd ih h
noncomputable def F_X6_wordKind (σ : sw_St) : Option (Int32 × sw_St) :=
  L_X6_wordKind_14 sw_fuel σ 256 (σ.1 2 3) 1 0
theorem FC_X6_wordKind {E : sw_E} {d : Nat} (hd : 4 ≤ d) {p : Int32 × sw_St} {σ : sw_St} (h : F_X6_wordKind σ  = some p) : sw_KI E sw_gX m_X6_wordKind d [.ref 2] σ (fun v s => v = p.1 ∧ s = p.2) := by
  unfold F_X6_wordKind at h
  refine sw_K.of (by decide +kernel) rfl (Nat.le_of_ble_eq_true rfl) ?_
  show sw_W E sw_gX m_X6_wordKind d 0 [(0, .ref 2)] [] σ (sw_pI p)
  refine B_X6_wordKind_0  ?_
  exact LC_X6_wordKind_14 hd _ _ _ _ _ _ h
/-! StrayWool$Reader.fail(II)Z -/
noncomputable def F_X6_fail (σ : sw_St) (x1 : Int32) (x2 : Int32) : Option (Int32 × sw_St) :=
  some (0, (sw_uI (sw_uI σ 2 5 x1) 2 6 x2))
theorem FC_X6_fail {E : sw_E} {d : Nat} (hd : 0 ≤ d) {p : Int32 × sw_St} {σ : sw_St} {x1 : Int32} {x2 : Int32} (h : F_X6_fail σ x1 x2 = some p) : sw_KI E sw_gX m_X6_fail d [.ref 2, .int x1, .int x2] σ (fun v s => v = p.1 ∧ s = p.2) := by
  unfold F_X6_fail at h
  refine sw_K.of (by decide +kernel) rfl (Nat.le_of_ble_eq_true rfl) ?_
  show sw_W E sw_gX m_X6_fail d 0 [(0, .ref 2), (1, .int x1), (2, .int x2)] [] σ (sw_pI p)
  cases h
  exact B_X6_fail_0  ⟨_, rfl, rfl, rfl⟩
/-! StrayWool$Reckoner.push(J)V -/
noncomputable def S_X7_push_59 (σ : sw_St) : Option (Unit × sw_St) :=
  some ((), σ)
theorem SC_X7_push_59 {E : sw_E} {d : Nat} (hd : 0 ≤ d) {p : Unit × sw_St} {σ : sw_St} (h : S_X7_push_59 σ  = some p) : sw_W E sw_gX m_X7_push d 59 [] [] σ (sw_pV p) := by
  unfold S_X7_push_59 at h
  cases h
  exact B_X7_push_59  ⟨rfl, rfl⟩
noncomputable def S_X7_push_48 (σ : sw_St) (sx0 : Int32) (sx1 : Int32) : Option (Unit × sw_St) :=
  if sw_inb sx1 256 = true then (S_X7_push_59 (sw_uI (sw_uI σ 36 sx1.toNatClampNeg sx0) 34 2 ((σ.1 34 2) + 1)) ) else none
theorem SC_X7_push_48 {E : sw_E} {d : Nat} (hd : 0 ≤ d) {p : Unit × sw_St} {σ : sw_St} {sx0 : Int32} {sx1 : Int32} (h : S_X7_push_48 σ sx0 sx1 = some p) : sw_W E sw_gX m_X7_push d 48 [(0, .ref 34)] [.int sx0, .int sx1, .ref 36] σ (sw_pV p) := by
  unfold S_X7_push_48 at h
  obtain ⟨o1, h⟩ := sw_ifs h
  refine B_X7_push_48 (sw_inb_sp o1) ?_
  exact SC_X7_push_59 hd h
noncomputable def F_X7_push (σ : sw_St) (y1 : Int64) : Option (Unit × sw_St) :=
  if 256 ≤ (σ.1 34 2) then (S_X7_push_59 σ ) else (if (lg_cmp y1 1000000) ≤ 0 then (if 0 ≤ (lg_cmp y1 (-1000000)) then (S_X7_push_48 σ y1.toInt32 (σ.1 34 2)) else (S_X7_push_48 σ (-1000000) (σ.1 34 2))) else (S_X7_push_48 σ 1000000 (σ.1 34 2)))
theorem FC_X7_push {E : sw_E} {d : Nat} (hd : 0 ≤ d) {p : Unit × sw_St} {σ : sw_St} {y1 : Int64} (h : F_X7_push σ y1 = some p) : sw_KV E sw_gX m_X7_push d [.ref 34, .long y1] σ (fun s => s = p.2) := by
  unfold F_X7_push at h
  refine sw_K.of (by decide +kernel) rfl (Nat.le_of_ble_eq_true rfl) ?_
  show sw_W E sw_gX m_X7_push d 0 [(0, .ref 34), (1, .long y1)] [] σ (sw_pV p)
  refine B_X7_push_0  (fun hc => ?_) (fun hc => ?_)
  · rw [if_pos hc] at h
    exact SC_X7_push_59 hd h
  · rw [if_neg hc] at h
    refine B_X7_push_12  (fun hc => ?_) (fun hc => ?_)
    · rw [if_pos hc] at h
      refine B_X7_push_33  (fun hc => ?_) (fun hc => ?_)
      · rw [if_pos hc] at h
        refine B_X7_push_46  ?_
        exact SC_X7_push_48 hd h
      · rw [if_neg hc] at h
        refine B_X7_push_41  ?_
        exact SC_X7_push_48 hd h
    · rw [if_neg hc] at h
      refine B_X7_push_28  ?_
      exact SC_X7_push_48 hd h
/-! StrayWool$Reckoner.pop()I -/
noncomputable def F_X7_pop (σ : sw_St) : Option (Int32 × sw_St) :=
  if (σ.1 34 2) = 0 then (some (0, σ)) else (if sw_inb ((σ.1 34 2) - 1) 256 = true then (some (σ.1 36 (((σ.1 34 2) - 1).toNatClampNeg), (sw_uI σ 34 2 ((σ.1 34 2) - 1)))) else none)
theorem FC_X7_pop {E : sw_E} {d : Nat} (hd : 0 ≤ d) {p : Int32 × sw_St} {σ : sw_St} (h : F_X7_pop σ  = some p) : sw_KI E sw_gX m_X7_pop d [.ref 34] σ (fun v s => v = p.1 ∧ s = p.2) := by
  unfold F_X7_pop at h
  refine sw_K.of (by decide +kernel) rfl (Nat.le_of_ble_eq_true rfl) ?_
  show sw_W E sw_gX m_X7_pop d 0 [(0, .ref 34)] [] σ (sw_pI p)
  refine B_X7_pop_0  (fun hc => ?_) (fun hc => ?_)
  · rw [if_neg hc] at h
    obtain ⟨o1, h⟩ := sw_ifs h
    cases h
    exact B_X7_pop_9 (sw_inb_sp o1) ⟨_, rfl, rfl, rfl⟩
  · rw [if_pos hc] at h
    cases h
    exact B_X7_pop_7  ⟨_, rfl, rfl, rfl⟩
/-! StrayWool$State.copyFrom(LStrayWool$State;)V -/
noncomputable def S_X8_copyFrom_151 (σ : sw_St) : Option (Unit × sw_St) :=
  some ((), σ)
theorem SC_X8_copyFrom_151 {E : sw_E} {d : Nat} (hd : 1 ≤ d) {p : Unit × sw_St} {σ : sw_St} (h : S_X8_copyFrom_151 σ  = some p) : sw_W E sw_gX m_X8_copyFrom d 151 [] [] σ (sw_pV p) := by
  unfold S_X8_copyFrom_151 at h
  cases h
  exact B_X8_copyFrom_151  ⟨rfl, rfl⟩
noncomputable def S_X8_copyFrom_133 (σ : sw_St) (o0 : Nat) (o1 : Nat) : Option (Unit × sw_St) :=
  if sw_isO sw_gX o1 8 = true then (if sw_isO sw_gX o0 8 = true then (if sw_isO sw_gX o0 8 = true then (if (sw_isA sw_gX (o0 + 7) 0 || sw_isA sw_gX (o0 + 7) 1 || sw_isA sw_gX (o0 + 7) 2 || sw_isA sw_gX (o0 + 7) 3) = true then (if sw_cpk sw_gX (o1 + 7) (o0 + 7) 0 0 (nI (sw_ln sw_gX (o0 + 7))) = true then (S_X8_copyFrom_151 (sw_cp σ (o1 + 7) (o0 + 7) 0 0 (nI (sw_ln sw_gX (o0 + 7)))) ) else none) else none) else none) else none) else none
theorem SC_X8_copyFrom_133 {E : sw_E} {d : Nat} (hd : 1 ≤ d) {p : Unit × sw_St} {σ : sw_St} {o0 : Nat} {o1 : Nat} (h : S_X8_copyFrom_133 σ o0 o1 = some p) : sw_W E sw_gX m_X8_copyFrom d 133 [(0, .ref o0), (1, .ref o1)] [] σ (sw_pV p) := by
  unfold S_X8_copyFrom_133 at h
  obtain ⟨o1, h⟩ := sw_ifs h
  obtain ⟨o2, h⟩ := sw_ifs h
  obtain ⟨o3, h⟩ := sw_ifs h
  obtain ⟨o4, h⟩ := sw_ifs h
  obtain ⟨o5, h⟩ := sw_ifs h
  refine B_X8_copyFrom_133 o1 o2 o3 o4 o5 (Nat.le_trans (by decide) hd) ?_
  exact SC_X8_copyFrom_151 hd h
noncomputable def S_X8_copyFrom_115 (σ : sw_St) (o0 : Nat) (o1 : Nat) : Option (Unit × sw_St) :=
  if sw_isO sw_gX o1 8 = true then (if sw_isO sw_gX o0 8 = true then (if sw_isO sw_gX o0 8 = true then (if (sw_isA sw_gX (o0 + 6) 0 || sw_isA sw_gX (o0 + 6) 1 || sw_isA sw_gX (o0 + 6) 2 || sw_isA sw_gX (o0 + 6) 3) = true then (if sw_cpk sw_gX (o1 + 6) (o0 + 6) 0 0 (nI (sw_ln sw_gX (o0 + 6))) = true then (S_X8_copyFrom_133 (sw_cp σ (o1 + 6) (o0 + 6) 0 0 (nI (sw_ln sw_gX (o0 + 6)))) o0 o1) else none) else none) else none) else none) else none
theorem SC_X8_copyFrom_115 {E : sw_E} {d : Nat} (hd : 1 ≤ d) {p : Unit × sw_St} {σ : sw_St} {o0 : Nat} {o1 : Nat} (h : S_X8_copyFrom_115 σ o0 o1 = some p) : sw_W E sw_gX m_X8_copyFrom d 115 [(0, .ref o0), (1, .ref o1)] [] σ (sw_pV p) := by
  unfold S_X8_copyFrom_115 at h
  obtain ⟨o1, h⟩ := sw_ifs h
  obtain ⟨o2, h⟩ := sw_ifs h
  obtain ⟨o3, h⟩ := sw_ifs h
  obtain ⟨o4, h⟩ := sw_ifs h
  obtain ⟨o5, h⟩ := sw_ifs h
  refine B_X8_copyFrom_115 o1 o2 o3 o4 o5 (Nat.le_trans (by decide) hd) ?_
  exact SC_X8_copyFrom_133 hd h
noncomputable def S_X8_copyFrom_100 (σ : sw_St) (o0 : Nat) (o1 : Nat) : Option (Unit × sw_St) :=
  if sw_isO sw_gX o1 8 = true then (if sw_isO sw_gX o0 8 = true then (if sw_cpk sw_gX (o1 + 5) (o0 + 5) 0 0 6 = true then (S_X8_copyFrom_115 (sw_cp σ (o1 + 5) (o0 + 5) 0 0 6) o0 o1) else none) else none) else none
theorem SC_X8_copyFrom_100 {E : sw_E} {d : Nat} (hd : 1 ≤ d) {p : Unit × sw_St} {σ : sw_St} {o0 : Nat} {o1 : Nat} (h : S_X8_copyFrom_100 σ o0 o1 = some p) : sw_W E sw_gX m_X8_copyFrom d 100 [(0, .ref o0), (1, .ref o1)] [] σ (sw_pV p) := by
  unfold S_X8_copyFrom_100 at h
  obtain ⟨o1, h⟩ := sw_ifs h
  obtain ⟨o2, h⟩ := sw_ifs h
  obtain ⟨o3, h⟩ := sw_ifs h
  refine B_X8_copyFrom_100 o1 o2 o3 (Nat.le_trans (by decide) hd) ?_
  exact SC_X8_copyFrom_115 hd h
noncomputable def S_X8_copyFrom_85 (σ : sw_St) (o0 : Nat) (o1 : Nat) : Option (Unit × sw_St) :=
  if sw_isO sw_gX o1 8 = true then (if sw_isO sw_gX o0 8 = true then (if sw_cpk sw_gX (o1 + 4) (o0 + 4) 0 0 6 = true then (S_X8_copyFrom_100 (sw_cp σ (o1 + 4) (o0 + 4) 0 0 6) o0 o1) else none) else none) else none
theorem SC_X8_copyFrom_85 {E : sw_E} {d : Nat} (hd : 1 ≤ d) {p : Unit × sw_St} {σ : sw_St} {o0 : Nat} {o1 : Nat} (h : S_X8_copyFrom_85 σ o0 o1 = some p) : sw_W E sw_gX m_X8_copyFrom d 85 [(0, .ref o0), (1, .ref o1)] [] σ (sw_pV p) := by
  unfold S_X8_copyFrom_85 at h
  obtain ⟨o1, h⟩ := sw_ifs h
  obtain ⟨o2, h⟩ := sw_ifs h
  obtain ⟨o3, h⟩ := sw_ifs h
  refine B_X8_copyFrom_85 o1 o2 o3 (Nat.le_trans (by decide) hd) ?_
  exact SC_X8_copyFrom_100 hd h
noncomputable def S_X8_copyFrom_70 (σ : sw_St) (o0 : Nat) (o1 : Nat) : Option (Unit × sw_St) :=
  if sw_isO sw_gX o1 8 = true then (if sw_isO sw_gX o0 8 = true then (if sw_cpk sw_gX (o1 + 3) (o0 + 3) 0 0 6 = true then (S_X8_copyFrom_85 (sw_cp σ (o1 + 3) (o0 + 3) 0 0 6) o0 o1) else none) else none) else none
theorem SC_X8_copyFrom_70 {E : sw_E} {d : Nat} (hd : 1 ≤ d) {p : Unit × sw_St} {σ : sw_St} {o0 : Nat} {o1 : Nat} (h : S_X8_copyFrom_70 σ o0 o1 = some p) : sw_W E sw_gX m_X8_copyFrom d 70 [(0, .ref o0), (1, .ref o1)] [] σ (sw_pV p) := by
  unfold S_X8_copyFrom_70 at h
  obtain ⟨o1, h⟩ := sw_ifs h
  obtain ⟨o2, h⟩ := sw_ifs h
  obtain ⟨o3, h⟩ := sw_ifs h
  refine B_X8_copyFrom_70 o1 o2 o3 (Nat.le_trans (by decide) hd) ?_
  exact SC_X8_copyFrom_85 hd h
noncomputable def S_X8_copyFrom_55 (σ : sw_St) (o0 : Nat) (o1 : Nat) : Option (Unit × sw_St) :=
  if sw_isO sw_gX o1 8 = true then (if sw_isO sw_gX o0 8 = true then (if sw_cpk sw_gX (o1 + 2) (o0 + 2) 0 0 6 = true then (S_X8_copyFrom_70 (sw_cp σ (o1 + 2) (o0 + 2) 0 0 6) o0 o1) else none) else none) else none
theorem SC_X8_copyFrom_55 {E : sw_E} {d : Nat} (hd : 1 ≤ d) {p : Unit × sw_St} {σ : sw_St} {o0 : Nat} {o1 : Nat} (h : S_X8_copyFrom_55 σ o0 o1 = some p) : sw_W E sw_gX m_X8_copyFrom d 55 [(0, .ref o0), (1, .ref o1)] [] σ (sw_pV p) := by
  unfold S_X8_copyFrom_55 at h
  obtain ⟨o1, h⟩ := sw_ifs h
  obtain ⟨o2, h⟩ := sw_ifs h
  obtain ⟨o3, h⟩ := sw_ifs h
  refine B_X8_copyFrom_55 o1 o2 o3 (Nat.le_trans (by decide) hd) ?_
  exact SC_X8_copyFrom_70 hd h
noncomputable def F_X8_copyFrom (σ : sw_St) (o0 : Nat) (o1 : Nat) : Option (Unit × sw_St) :=
  if sw_isO sw_gX o1 8 = true then (if sw_isO sw_gX o0 8 = true then (if sw_isO sw_gX o1 8 = true then (if sw_isO sw_gX o0 8 = true then (if sw_isO sw_gX o1 8 = true then (if sw_isO sw_gX o0 8 = true then (if sw_isO sw_gX o1 8 = true then (if sw_isO sw_gX o0 8 = true then (if sw_isO sw_gX o1 8 = true then (if sw_isO sw_gX o0 8 = true then (if sw_isO sw_gX o1 8 = true then (if sw_isO sw_gX o0 8 = true then (if sw_cpk sw_gX (o1 + 1) (o0 + 1) 0 0 6 = true then (S_X8_copyFrom_55 (sw_cp (sw_uI (sw_uI (sw_uI (sw_uI (sw_uI σ o0 0 (σ.1 o1 0)) o0 1 ((sw_uI σ o0 0 (σ.1 o1 0)).1 o1 1)) o0 2 ((sw_uI (sw_uI σ o0 0 (σ.1 o1 0)) o0 1 ((sw_uI σ o0 0 (σ.1 o1 0)).1 o1 1)).1 o1 2)) o0 10 ((sw_uI (sw_uI (sw_uI σ o0 0 (σ.1 o1 0)) o0 1 ((sw_uI σ o0 0 (σ.1 o1 0)).1 o1 1)) o0 2 ((sw_uI (sw_uI σ o0 0 (σ.1 o1 0)) o0 1 ((sw_uI σ o0 0 (σ.1 o1 0)).1 o1 1)).1 o1 2)).1 o1 10)) o0 11 ((sw_uI (sw_uI (sw_uI (sw_uI σ o0 0 (σ.1 o1 0)) o0 1 ((sw_uI σ o0 0 (σ.1 o1 0)).1 o1 1)) o0 2 ((sw_uI (sw_uI σ o0 0 (σ.1 o1 0)) o0 1 ((sw_uI σ o0 0 (σ.1 o1 0)).1 o1 1)).1 o1 2)) o0 10 ((sw_uI (sw_uI (sw_uI σ o0 0 (σ.1 o1 0)) o0 1 ((sw_uI σ o0 0 (σ.1 o1 0)).1 o1 1)) o0 2 ((sw_uI (sw_uI σ o0 0 (σ.1 o1 0)) o0 1 ((sw_uI σ o0 0 (σ.1 o1 0)).1 o1 1)).1 o1 2)).1 o1 10)).1 o1 11)) (o1 + 1) (o0 + 1) 0 0 6) o0 o1) else none) else none) else none) else none) else none) else none) else none) else none) else none) else none) else none) else none) else none
theorem FC_X8_copyFrom {E : sw_E} {d : Nat} (hd : 1 ≤ d) {p : Unit × sw_St} {σ : sw_St} {o0 : Nat} {o1 : Nat} (h : F_X8_copyFrom σ o0 o1 = some p) : sw_KV E sw_gX m_X8_copyFrom d [.ref o0, .ref o1] σ (fun s => s = p.2) := by
  unfold F_X8_copyFrom at h
  refine sw_K.of (by decide +kernel) rfl (Nat.le_of_ble_eq_true rfl) ?_
  show sw_W E sw_gX m_X8_copyFrom d 0 [(0, .ref o0), (1, .ref o1)] [] σ (sw_pV p)
  obtain ⟨o1, h⟩ := sw_ifs h
  obtain ⟨o2, h⟩ := sw_ifs h
  obtain ⟨o3, h⟩ := sw_ifs h
  obtain ⟨o4, h⟩ := sw_ifs h
  obtain ⟨o5, h⟩ := sw_ifs h
  obtain ⟨o6, h⟩ := sw_ifs h
  obtain ⟨o7, h⟩ := sw_ifs h
  obtain ⟨o8, h⟩ := sw_ifs h
  obtain ⟨o9, h⟩ := sw_ifs h
  obtain ⟨o10, h⟩ := sw_ifs h
  obtain ⟨o11, h⟩ := sw_ifs h
  obtain ⟨o12, h⟩ := sw_ifs h
  obtain ⟨o13, h⟩ := sw_ifs h
  refine B_X8_copyFrom_0 o1 o2 o3 o4 o5 o6 o7 o8 o9 o10 o11 o12 o13 (Nat.le_trans (by decide) hd) ?_
  exact SC_X8_copyFrom_55 hd h
/-! StrayWool$State.copyOne(LStrayWool$State;I)V -/
noncomputable def S_X8_copyOne_97 (σ : sw_St) : Option (Unit × sw_St) :=
  some ((), σ)
theorem SC_X8_copyOne_97 {E : sw_E} {d : Nat} (hd : 1 ≤ d) {p : Unit × sw_St} {σ : sw_St} (h : S_X8_copyOne_97 σ  = some p) : sw_W E sw_gX m_X8_copyOne d 97 [] [] σ (sw_pV p) := by
  unfold S_X8_copyOne_97 at h
  cases h
  exact B_X8_copyOne_97  ⟨rfl, rfl⟩
noncomputable def F_X8_copyOne (σ : sw_St) (o0 : Nat) (o1 : Nat) (x2 : Int32) : Option (Unit × sw_St) :=
  if sw_isO sw_gX o1 8 = true then (if sw_isO sw_gX o0 8 = true then (if sw_isO sw_gX o1 8 = true then (if sw_isO sw_gX o0 8 = true then (if sw_isO sw_gX o0 8 = true then (if sw_isO sw_gX o1 8 = true then (if sw_isA sw_gX (o1 + 1) 0 = true then (if sw_inb x2 (sw_ln sw_gX (o1 + 1)) = true then (if sw_isA sw_gX (o0 + 1) 0 = true then (if sw_inb x2 (sw_ln sw_gX (o0 + 1)) = true then (if sw_isO sw_gX o0 8 = true then (if sw_isO sw_gX o1 8 = true then (if sw_isA sw_gX (o1 + 2) 0 = true then (if sw_inb x2 (sw_ln sw_gX (o1 + 2)) = true then (if sw_isA sw_gX (o0 + 2) 0 = true then (if sw_inb x2 (sw_ln sw_gX (o0 + 2)) = true then (if sw_isO sw_gX o0 8 = true then (if sw_isO sw_gX o1 8 = true then (if sw_isA sw_gX (o1 + 3) 0 = true then (if sw_inb x2 (sw_ln sw_gX (o1 + 3)) = true then (if sw_isA sw_gX (o0 + 3) 0 = true then (if sw_inb x2 (sw_ln sw_gX (o0 + 3)) = true then (if sw_isO sw_gX o0 8 = true then (if sw_isO sw_gX o1 8 = true then (if sw_isA sw_gX (o1 + 4) 0 = true then (if sw_inb x2 (sw_ln sw_gX (o1 + 4)) = true then (if sw_isA sw_gX (o0 + 4) 0 = true then (if sw_inb x2 (sw_ln sw_gX (o0 + 4)) = true then (if sw_isO sw_gX o0 8 = true then (if sw_isO sw_gX o1 8 = true then (if sw_isA sw_gX (o1 + 5) 0 = true then (if sw_inb x2 (sw_ln sw_gX (o1 + 5)) = true then (if sw_isA sw_gX (o0 + 5) 0 = true then (if sw_inb x2 (sw_ln sw_gX (o0 + 5)) = true then (if sw_isO sw_gX o1 8 = true then (if sw_isO sw_gX o0 8 = true then (if sw_cpk sw_gX (o1 + 6) (o0 + 6) (x2 * 8) (x2 * 8) 8 = true then (S_X8_copyOne_97 (sw_cp (sw_uI (sw_uI (sw_uI (sw_uI (sw_uI (sw_uI (sw_uI σ o0 0 (σ.1 o1 0)) o0 2 ((sw_uI σ o0 0 (σ.1 o1 0)).1 o1 2)) (o0 + 1) x2.toNatClampNeg ((sw_uI (sw_uI σ o0 0 (σ.1 o1 0)) o0 2 ((sw_uI σ o0 0 (σ.1 o1 0)).1 o1 2)).1 (o1 + 1) x2.toNatClampNeg)) (o0 + 2) x2.toNatClampNeg ((sw_uI (sw_uI (sw_uI σ o0 0 (σ.1 o1 0)) o0 2 ((sw_uI σ o0 0 (σ.1 o1 0)).1 o1 2)) (o0 + 1) x2.toNatClampNeg ((sw_uI (sw_uI σ o0 0 (σ.1 o1 0)) o0 2 ((sw_uI σ o0 0 (σ.1 o1 0)).1 o1 2)).1 (o1 + 1) x2.toNatClampNeg)).1 (o1 + 2) x2.toNatClampNeg)) (o0 + 3) x2.toNatClampNeg ((sw_uI (sw_uI (sw_uI (sw_uI σ o0 0 (σ.1 o1 0)) o0 2 ((sw_uI σ o0 0 (σ.1 o1 0)).1 o1 2)) (o0 + 1) x2.toNatClampNeg ((sw_uI (sw_uI σ o0 0 (σ.1 o1 0)) o0 2 ((sw_uI σ o0 0 (σ.1 o1 0)).1 o1 2)).1 (o1 + 1) x2.toNatClampNeg)) (o0 + 2) x2.toNatClampNeg ((sw_uI (sw_uI (sw_uI σ o0 0 (σ.1 o1 0)) o0 2 ((sw_uI σ o0 0 (σ.1 o1 0)).1 o1 2)) (o0 + 1) x2.toNatClampNeg ((sw_uI (sw_uI σ o0 0 (σ.1 o1 0)) o0 2 ((sw_uI σ o0 0 (σ.1 o1 0)).1 o1 2)).1 (o1 + 1) x2.toNatClampNeg)).1 (o1 + 2) x2.toNatClampNeg)).1 (o1 + 3) x2.toNatClampNeg)) (o0 + 4) x2.toNatClampNeg ((sw_uI (sw_uI (sw_uI (sw_uI (sw_uI σ o0 0 (σ.1 o1 0)) o0 2 ((sw_uI σ o0 0 (σ.1 o1 0)).1 o1 2)) (o0 + 1) x2.toNatClampNeg ((sw_uI (sw_uI σ o0 0 (σ.1 o1 0)) o0 2 ((sw_uI σ o0 0 (σ.1 o1 0)).1 o1 2)).1 (o1 + 1) x2.toNatClampNeg)) (o0 + 2) x2.toNatClampNeg ((sw_uI (sw_uI (sw_uI σ o0 0 (σ.1 o1 0)) o0 2 ((sw_uI σ o0 0 (σ.1 o1 0)).1 o1 2)) (o0 + 1) x2.toNatClampNeg ((sw_uI (sw_uI σ o0 0 (σ.1 o1 0)) o0 2 ((sw_uI σ o0 0 (σ.1 o1 0)).1 o1 2)).1 (o1 + 1) x2.toNatClampNeg)).1 (o1 + 2) x2.toNatClampNeg)) (o0 + 3) x2.toNatClampNeg ((sw_uI (sw_uI (sw_uI (sw_uI σ o0 0 (σ.1 o1 0)) o0 2 ((sw_uI σ o0 0 (σ.1 o1 0)).1 o1 2)) (o0 + 1) x2.toNatClampNeg ((sw_uI (sw_uI σ o0 0 (σ.1 o1 0)) o0 2 ((sw_uI σ o0 0 (σ.1 o1 0)).1 o1 2)).1 (o1 + 1) x2.toNatClampNeg)) (o0 + 2) x2.toNatClampNeg ((sw_uI (sw_uI (sw_uI σ o0 0 (σ.1 o1 0)) o0 2 ((sw_uI σ o0 0 (σ.1 o1 0)).1 o1 2)) (o0 + 1) x2.toNatClampNeg ((sw_uI (sw_uI σ o0 0 (σ.1 o1 0)) o0 2 ((sw_uI σ o0 0 (σ.1 o1 0)).1 o1 2)).1 (o1 + 1) x2.toNatClampNeg)).1 (o1 + 2) x2.toNatClampNeg)).1 (o1 + 3) x2.toNatClampNeg)).1 (o1 + 4) x2.toNatClampNeg)) (o0 + 5) x2.toNatClampNeg ((sw_uI (sw_uI (sw_uI (sw_uI (sw_uI (sw_uI σ o0 0 (σ.1 o1 0)) o0 2 ((sw_uI σ o0 0 (σ.1 o1 0)).1 o1 2)) (o0 + 1) x2.toNatClampNeg ((sw_uI (sw_uI σ o0 0 (σ.1 o1 0)) o0 2 ((sw_uI σ o0 0 (σ.1 o1 0)).1 o1 2)).1 (o1 + 1) x2.toNatClampNeg)) (o0 + 2) x2.toNatClampNeg ((sw_uI (sw_uI (sw_uI σ o0 0 (σ.1 o1 0)) o0 2 ((sw_uI σ o0 0 (σ.1 o1 0)).1 o1 2)) (o0 + 1) x2.toNatClampNeg ((sw_uI (sw_uI σ o0 0 (σ.1 o1 0)) o0 2 ((sw_uI σ o0 0 (σ.1 o1 0)).1 o1 2)).1 (o1 + 1) x2.toNatClampNeg)).1 (o1 + 2) x2.toNatClampNeg)) (o0 + 3) x2.toNatClampNeg ((sw_uI (sw_uI (sw_uI (sw_uI σ o0 0 (σ.1 o1 0)) o0 2 ((sw_uI σ o0 0 (σ.1 o1 0)).1 o1 2)) (o0 + 1) x2.toNatClampNeg ((sw_uI (sw_uI σ o0 0 (σ.1 o1 0)) o0 2 ((sw_uI σ o0 0 (σ.1 o1 0)).1 o1 2)).1 (o1 + 1) x2.toNatClampNeg)) (o0 + 2) x2.toNatClampNeg ((sw_uI (sw_uI (sw_uI σ o0 0 (σ.1 o1 0)) o0 2 ((sw_uI σ o0 0 (σ.1 o1 0)).1 o1 2)) (o0 + 1) x2.toNatClampNeg ((sw_uI (sw_uI σ o0 0 (σ.1 o1 0)) o0 2 ((sw_uI σ o0 0 (σ.1 o1 0)).1 o1 2)).1 (o1 + 1) x2.toNatClampNeg)).1 (o1 + 2) x2.toNatClampNeg)).1 (o1 + 3) x2.toNatClampNeg)) (o0 + 4) x2.toNatClampNeg ((sw_uI (sw_uI (sw_uI (sw_uI (sw_uI σ o0 0 (σ.1 o1 0)) o0 2 ((sw_uI σ o0 0 (σ.1 o1 0)).1 o1 2)) (o0 + 1) x2.toNatClampNeg ((sw_uI (sw_uI σ o0 0 (σ.1 o1 0)) o0 2 ((sw_uI σ o0 0 (σ.1 o1 0)).1 o1 2)).1 (o1 + 1) x2.toNatClampNeg)) (o0 + 2) x2.toNatClampNeg ((sw_uI (sw_uI (sw_uI σ o0 0 (σ.1 o1 0)) o0 2 ((sw_uI σ o0 0 (σ.1 o1 0)).1 o1 2)) (o0 + 1) x2.toNatClampNeg ((sw_uI (sw_uI σ o0 0 (σ.1 o1 0)) o0 2 ((sw_uI σ o0 0 (σ.1 o1 0)).1 o1 2)).1 (o1 + 1) x2.toNatClampNeg)).1 (o1 + 2) x2.toNatClampNeg)) (o0 + 3) x2.toNatClampNeg ((sw_uI (sw_uI (sw_uI (sw_uI σ o0 0 (σ.1 o1 0)) o0 2 ((sw_uI σ o0 0 (σ.1 o1 0)).1 o1 2)) (o0 + 1) x2.toNatClampNeg ((sw_uI (sw_uI σ o0 0 (σ.1 o1 0)) o0 2 ((sw_uI σ o0 0 (σ.1 o1 0)).1 o1 2)).1 (o1 + 1) x2.toNatClampNeg)) (o0 + 2) x2.toNatClampNeg ((sw_uI (sw_uI (sw_uI σ o0 0 (σ.1 o1 0)) o0 2 ((sw_uI σ o0 0 (σ.1 o1 0)).1 o1 2)) (o0 + 1) x2.toNatClampNeg ((sw_uI (sw_uI σ o0 0 (σ.1 o1 0)) o0 2 ((sw_uI σ o0 0 (σ.1 o1 0)).1 o1 2)).1 (o1 + 1) x2.toNatClampNeg)).1 (o1 + 2) x2.toNatClampNeg)).1 (o1 + 3) x2.toNatClampNeg)).1 (o1 + 4) x2.toNatClampNeg)).1 (o1 + 5) x2.toNatClampNeg)) (o1 + 6) (o0 + 6) (x2 * 8) (x2 * 8) 8) ) else none) else none) else none) else none) else none) else none) else none) else none) else none) else none) else none) else none) else none) else none) else none) else none) else none) else none) else none) else none) else none) else none) else none) else none) else none) else none) else none) else none) else none) else none) else none) else none) else none) else none) else none) else none) else none
theorem FC_X8_copyOne {E : sw_E} {d : Nat} (hd : 1 ≤ d) {p : Unit × sw_St} {σ : sw_St} {o0 : Nat} {o1 : Nat} {x2 : Int32} (h : F_X8_copyOne σ o0 o1 x2 = some p) : sw_KV E sw_gX m_X8_copyOne d [.ref o0, .ref o1, .int x2] σ (fun s => s = p.2) := by
  unfold F_X8_copyOne at h
  refine sw_K.of (by decide +kernel) rfl (Nat.le_of_ble_eq_true rfl) ?_
  show sw_W E sw_gX m_X8_copyOne d 0 [(0, .ref o0), (1, .ref o1), (2, .int x2)] [] σ (sw_pV p)
  obtain ⟨o1, h⟩ := sw_ifs h
  obtain ⟨o2, h⟩ := sw_ifs h
  obtain ⟨o3, h⟩ := sw_ifs h
  obtain ⟨o4, h⟩ := sw_ifs h
  obtain ⟨o5, h⟩ := sw_ifs h
  obtain ⟨o6, h⟩ := sw_ifs h
  obtain ⟨o7, h⟩ := sw_ifs h
  obtain ⟨o8, h⟩ := sw_ifs h
  obtain ⟨o9, h⟩ := sw_ifs h
  obtain ⟨o10, h⟩ := sw_ifs h
  obtain ⟨o11, h⟩ := sw_ifs h
  obtain ⟨o12, h⟩ := sw_ifs h
  obtain ⟨o13, h⟩ := sw_ifs h
  obtain ⟨o14, h⟩ := sw_ifs h
  obtain ⟨o15, h⟩ := sw_ifs h
  obtain ⟨o16, h⟩ := sw_ifs h
  obtain ⟨o17, h⟩ := sw_ifs h
  obtain ⟨o18, h⟩ := sw_ifs h
  obtain ⟨o19, h⟩ := sw_ifs h
  obtain ⟨o20, h⟩ := sw_ifs h
  obtain ⟨o21, h⟩ := sw_ifs h
  obtain ⟨o22, h⟩ := sw_ifs h
  obtain ⟨o23, h⟩ := sw_ifs h
  obtain ⟨o24, h⟩ := sw_ifs h
  obtain ⟨o25, h⟩ := sw_ifs h
  obtain ⟨o26, h⟩ := sw_ifs h
  obtain ⟨o27, h⟩ := sw_ifs h
  obtain ⟨o28, h⟩ := sw_ifs h
  obtain ⟨o29, h⟩ := sw_ifs h
  obtain ⟨o30, h⟩ := sw_ifs h
  obtain ⟨o31, h⟩ := sw_ifs h
  obtain ⟨o32, h⟩ := sw_ifs h
  obtain ⟨o33, h⟩ := sw_ifs h
  obtain ⟨o34, h⟩ := sw_ifs h
  obtain ⟨o35, h⟩ := sw_ifs h
  obtain ⟨o36, h⟩ := sw_ifs h
  obtain ⟨o37, h⟩ := sw_ifs h
  refine B_X8_copyOne_0 o1 o2 o3 o4 o5 o6 o7 (sw_inb_sp o8) o9 (sw_inb_sp o10) o11 o12 o13 (sw_inb_sp o14) o15 (sw_inb_sp o16) o17 o18 o19 (sw_inb_sp o20) o21 (sw_inb_sp o22) o23 o24 o25 (sw_inb_sp o26) o27 (sw_inb_sp o28) o29 o30 o31 (sw_inb_sp o32) o33 (sw_inb_sp o34) o35 o36 o37 (Nat.le_trans (by decide) hd) ?_
  exact SC_X8_copyOne_97 hd h
/-! StrayWool$State.allMiles(I)I -/
noncomputable def S_X8_allMiles_4 (c4 : sw_St → Nat → Int32 → Int32 → Int32 → Option (Int32 × sw_St)) (σ : sw_St) (o0 : Nat) (x1 : Int32) (x2 : Int32) (x3 : Int32) : Option (Int32 × sw_St) :=
  if x1 ≤ x3 then (some (x2, σ)) else (if sw_isO sw_gX o0 8 = true then (if sw_isA sw_gX (o0 + 2) 0 = true then (if sw_inb x3 (sw_ln sw_gX (o0 + 2)) = true then (c4 σ o0 x1 (x2 + (σ.1 (o0 + 2) x3.toNatClampNeg)) (x3 + 1)) else none) else none) else none)
theorem SC_X8_allMiles_4 {E : sw_E} {d : Nat} (hd : 0 ≤ d) {p : Int32 × sw_St} {c4 : sw_St → Nat → Int32 → Int32 → Int32 → Option (Int32 × sw_St)} (h4 : ∀ (σ : sw_St) (o0 : Nat) (x1 : Int32) (x2 : Int32) (x3 : Int32), c4 σ o0 x1 x2 x3 = some p → sw_W E sw_gX m_X8_allMiles d 4 [(0, .ref o0), (1, .int x1), (2, .int x2), (3, .int x3)] [] σ (sw_pI p)) {σ : sw_St} {o0 : Nat} {x1 : Int32} {x2 : Int32} {x3 : Int32} (h : S_X8_allMiles_4 c4 σ o0 x1 x2 x3 = some p) : sw_W E sw_gX m_X8_allMiles d 4 [(0, .ref o0), (1, .int x1), (2, .int x2), (3, .int x3)] [] σ (sw_pI p) := by
  unfold S_X8_allMiles_4 at h
  refine B_X8_allMiles_4  (fun hc => ?_) (fun hc => ?_)
  · rw [if_pos hc] at h
    cases h
    exact B_X8_allMiles_24  ⟨_, rfl, rfl, rfl⟩
  · rw [if_neg hc] at h
    obtain ⟨o1, h⟩ := sw_ifs h
    obtain ⟨o2, h⟩ := sw_ifs h
    obtain ⟨o3, h⟩ := sw_ifs h
    refine B_X8_allMiles_9 o1 o2 (sw_inb_sp o3) ?_
    exact h4 _ _ _ _ _ h
noncomputable def L_X8_allMiles_4 : Nat → sw_St → Nat → Int32 → Int32 → Int32 → Option (Int32 × sw_St)
  | 0, _, _, _, _, _ => none
  | k + 1, σ, o0, x1, x2, x3 => S_X8_allMiles_4 (fun σ o0 x1 x2 x3 => L_X8_allMiles_4 k σ o0 x1 x2 x3) σ o0 x1 x2 x3
theorem LC_X8_allMiles_4 {E : sw_E} {d : Nat} (hd : 0 ≤ d) {p : Int32 × sw_St} : ∀ (k : Nat) (σ : sw_St) (o0 : Nat) (x1 : Int32) (x2 : Int32) (x3 : Int32), L_X8_allMiles_4 k σ o0 x1 x2 x3 = some p → sw_W E sw_gX m_X8_allMiles d 4 [(0, .ref o0), (1, .int x1), (2, .int x2), (3, .int x3)] [] σ (sw_pI p) := by
  intro k
  induction k with
  | zero => intro σ o0 x1 x2 x3 h; cases h
  | succ k ih => intro σ o0 x1 x2 x3 h; exact SC_X8_allMiles_4 hd ih h
noncomputable def F_X8_allMiles (σ : sw_St) (o0 : Nat) (x1 : Int32) : Option (Int32 × sw_St) :=
  L_X8_allMiles_4 sw_fuel σ o0 x1 0 0
theorem FC_X8_allMiles {E : sw_E} {d : Nat} (hd : 0 ≤ d) {p : Int32 × sw_St} {σ : sw_St} {o0 : Nat} {x1 : Int32} (h : F_X8_allMiles σ o0 x1 = some p) : sw_KI E sw_gX m_X8_allMiles d [.ref o0, .int x1] σ (fun v s => v = p.1 ∧ s = p.2) := by
  unfold F_X8_allMiles at h
  refine sw_K.of (by decide +kernel) rfl (Nat.le_of_ble_eq_true rfl) ?_
  show sw_W E sw_gX m_X8_allMiles d 0 [(0, .ref o0), (1, .int x1)] [] σ (sw_pI p)
  refine B_X8_allMiles_0  ?_
  exact LC_X8_allMiles_4 hd _ _ _ _ _ _ h
/-! StrayWool$State.keep(II)V -/
noncomputable def S_X8_keep_53 (σ : sw_St) (o0 : Nat) (x1 : Int32) (x2 : Int32) (x3 : Int32) : Option (Unit × sw_St) :=
  if sw_isO sw_gX o0 8 = true then (if sw_isO sw_gX o0 8 = true then (if sw_isO sw_gX o0 8 = true then (if sw_isA sw_gX (o0 + 2) 0 = true then (if sw_inb x1 (sw_ln sw_gX (o0 + 2)) = true then (if sw_isA sw_gX (o0 + 7) 0 = true then (if sw_inb x3 (sw_ln sw_gX (o0 + 7)) = true then (some ((), (sw_uI σ (o0 + 7) x3.toNatClampNeg (((((((σ.1 o0 0) * 6) + x1) * 10) + x2) * 1000) + (σ.1 (o0 + 2) x1.toNatClampNeg))))) else none) else none) else none) else none) else none) else none) else none
theorem SC_X8_keep_53 {E : sw_E} {d : Nat} (hd : 0 ≤ d) {p : Unit × sw_St} {σ : sw_St} {o0 : Nat} {x1 : Int32} {x2 : Int32} {x3 : Int32} (h : S_X8_keep_53 σ o0 x1 x2 x3 = some p) : sw_W E sw_gX m_X8_keep d 53 [(0, .ref o0), (1, .int x1), (2, .int x2), (3, .int x3)] [] σ (sw_pV p) := by
  unfold S_X8_keep_53 at h
  obtain ⟨o1, h⟩ := sw_ifs h
  obtain ⟨o2, h⟩ := sw_ifs h
  obtain ⟨o3, h⟩ := sw_ifs h
  obtain ⟨o4, h⟩ := sw_ifs h
  obtain ⟨o5, h⟩ := sw_ifs h
  obtain ⟨o6, h⟩ := sw_ifs h
  obtain ⟨o7, h⟩ := sw_ifs h
  cases h
  exact B_X8_keep_53 o1 o2 o3 o4 (sw_inb_sp o5) o6 (sw_inb_sp o7) ⟨rfl, rfl⟩
noncomputable def F_X8_keep (σ : sw_St) (o0 : Nat) (x1 : Int32) (x2 : Int32) : Option (Unit × sw_St) :=
  if sw_isO sw_gX o0 8 = true then (if 40 ≤ (σ.1 o0 11) then (if sw_isO sw_gX o0 8 = true then (if sw_isO sw_gX o0 8 = true then (if sw_isO sw_gX o0 8 = true then (S_X8_keep_53 (sw_uI σ o0 10 (((σ.1 o0 10) + 1) - ((σ.1 o0 10) + 1) / 40 * 40)) o0 x1 x2 (σ.1 o0 10)) else none) else none) else none) else (if sw_isO sw_gX o0 8 = true then (if sw_isO sw_gX o0 8 = true then (if sw_isO sw_gX o0 8 = true then (if sw_isO sw_gX o0 8 = true then (S_X8_keep_53 (sw_uI σ o0 11 ((σ.1 o0 11) + 1)) o0 x1 x2 (((σ.1 o0 10) + (σ.1 o0 11)) - ((σ.1 o0 10) + (σ.1 o0 11)) / 40 * 40)) else none) else none) else none) else none)) else none
theorem FC_X8_keep {E : sw_E} {d : Nat} (hd : 0 ≤ d) {p : Unit × sw_St} {σ : sw_St} {o0 : Nat} {x1 : Int32} {x2 : Int32} (h : F_X8_keep σ o0 x1 x2 = some p) : sw_KV E sw_gX m_X8_keep d [.ref o0, .int x1, .int x2] σ (fun s => s = p.2) := by
  unfold F_X8_keep at h
  refine sw_K.of (by decide +kernel) rfl (Nat.le_of_ble_eq_true rfl) ?_
  show sw_W E sw_gX m_X8_keep d 0 [(0, .ref o0), (1, .int x1), (2, .int x2)] [] σ (sw_pV p)
  obtain ⟨o1, h⟩ := sw_ifs h
  refine B_X8_keep_0 o1 (fun hc => ?_) (fun hc => ?_)
  · rw [if_pos hc] at h
    obtain ⟨o2, h⟩ := sw_ifs h
    obtain ⟨o3, h⟩ := sw_ifs h
    obtain ⟨o4, h⟩ := sw_ifs h
    refine B_X8_keep_35 o2 o3 o4 ?_
    exact SC_X8_keep_53 hd h
  · rw [if_neg hc] at h
    obtain ⟨o5, h⟩ := sw_ifs h
    obtain ⟨o6, h⟩ := sw_ifs h
    obtain ⟨o7, h⟩ := sw_ifs h
    obtain ⟨o8, h⟩ := sw_ifs h
    refine B_X8_keep_9 o5 o6 o7 o8 ?_
    exact SC_X8_keep_53 hd h
/-! StrayWool$State.keptPart(II)I -/
noncomputable def F_X8_keptPart (σ : sw_St) (o0 : Nat) (x1 : Int32) (x2 : Int32) : Option (Int32 × sw_St) :=
  if sw_isO sw_gX o0 8 = true then (if sw_isO sw_gX o0 8 = true then (if sw_isA sw_gX (o0 + 7) 0 = true then (if sw_inb (((σ.1 o0 10) + x1) - ((σ.1 o0 10) + x1) / 40 * 40) (sw_ln sw_gX (o0 + 7)) = true then (if x2 = 0 then (some ((((σ.1 (o0 + 7) ((((σ.1 o0 10) + x1) - ((σ.1 o0 10) + x1) / 40 * 40).toNatClampNeg)) / 1000) / 10) / 6, σ)) else if x2 = 1 then (some ((((σ.1 (o0 + 7) ((((σ.1 o0 10) + x1) - ((σ.1 o0 10) + x1) / 40 * 40).toNatClampNeg)) / 1000) / 10) - (((σ.1 (o0 + 7) ((((σ.1 o0 10) + x1) - ((σ.1 o0 10) + x1) / 40 * 40).toNatClampNeg)) / 1000) / 10) / 6 * 6, σ)) else if x2 = 2 then (some (((σ.1 (o0 + 7) ((((σ.1 o0 10) + x1) - ((σ.1 o0 10) + x1) / 40 * 40).toNatClampNeg)) / 1000) - ((σ.1 (o0 + 7) ((((σ.1 o0 10) + x1) - ((σ.1 o0 10) + x1) / 40 * 40).toNatClampNeg)) / 1000) / 10 * 10, σ)) else if x2 = 3 then (some ((σ.1 (o0 + 7) ((((σ.1 o0 10) + x1) - ((σ.1 o0 10) + x1) / 40 * 40).toNatClampNeg)) - (σ.1 (o0 + 7) ((((σ.1 o0 10) + x1) - ((σ.1 o0 10) + x1) / 40 * 40).toNatClampNeg)) / 1000 * 1000, σ)) else (some ((-1), σ))) else none) else none) else none) else none
theorem FC_X8_keptPart {E : sw_E} {d : Nat} (hd : 0 ≤ d) {p : Int32 × sw_St} {σ : sw_St} {o0 : Nat} {x1 : Int32} {x2 : Int32} (h : F_X8_keptPart σ o0 x1 x2 = some p) : sw_KI E sw_gX m_X8_keptPart d [.ref o0, .int x1, .int x2] σ (fun v s => v = p.1 ∧ s = p.2) := by
  unfold F_X8_keptPart at h
  refine sw_K.of (by decide +kernel) rfl (Nat.le_of_ble_eq_true rfl) ?_
  show sw_W E sw_gX m_X8_keptPart d 0 [(0, .ref o0), (1, .int x1), (2, .int x2)] [] σ (sw_pI p)
  obtain ⟨o1, h⟩ := sw_ifs h
  obtain ⟨o2, h⟩ := sw_ifs h
  obtain ⟨o3, h⟩ := sw_ifs h
  obtain ⟨o4, h⟩ := sw_ifs h
  refine B_X8_keptPart_0 o1 o2 o3 (sw_inb_sp o4) (fun hc => ?_) (fun hc => ?_) (fun hc => ?_) (fun hc => ?_) (fun n0 n1 n2 n3 => ?_)
  · rw [if_pos hc] at h
    cases h
    exact B_X8_keptPart_52  ⟨_, rfl, rfl, rfl⟩
  · rw [if_neg (fun z => absurd (hc.symm.trans z) (by decide)), if_pos hc] at h
    cases h
    exact B_X8_keptPart_61  ⟨_, rfl, rfl, rfl⟩
  · rw [if_neg (fun z => absurd (hc.symm.trans z) (by decide)), if_neg (fun z => absurd (hc.symm.trans z) (by decide)), if_pos hc] at h
    cases h
    exact B_X8_keptPart_70  ⟨_, rfl, rfl, rfl⟩
  · rw [if_neg (fun z => absurd (hc.symm.trans z) (by decide)), if_neg (fun z => absurd (hc.symm.trans z) (by decide)), if_neg (fun z => absurd (hc.symm.trans z) (by decide)), if_pos hc] at h
    cases h
    exact B_X8_keptPart_76  ⟨_, rfl, rfl, rfl⟩
  · rw [if_neg n0, if_neg n1, if_neg n2, if_neg n3] at h
    cases h
    exact B_X8_keptPart_82  ⟨_, rfl, rfl, rfl⟩
/-! StrayWool$Upland.setFormula(III)V -/
noncomputable def F_X9_setFormula (σ : sw_St) (o0 : Nat) (x1 : Int32) (x2 : Int32) (x3 : Int32) : Option (Unit × sw_St) :=
  if sw_isO sw_gX o0 9 = true then (if sw_isA sw_gX (o0 + 11) 0 = true then (if sw_inb x1 (sw_ln sw_gX (o0 + 11)) = true then (if sw_isO sw_gX o0 9 = true then (if sw_isA sw_gX (o0 + 12) 0 = true then (if sw_inb x1 (sw_ln sw_gX (o0 + 12)) = true then (some ((), (sw_uI (sw_uI σ (o0 + 11) x1.toNatClampNeg x2) (o0 + 12) x1.toNatClampNeg x3))) else none) else none) else none) else none) else none) else none
theorem FC_X9_setFormula {E : sw_E} {d : Nat} (hd : 0 ≤ d) {p : Unit × sw_St} {σ : sw_St} {o0 : Nat} {x1 : Int32} {x2 : Int32} {x3 : Int32} (h : F_X9_setFormula σ o0 x1 x2 x3 = some p) : sw_KV E sw_gX m_X9_setFormula d [.ref o0, .int x1, .int x2, .int x3] σ (fun s => s = p.2) := by
  unfold F_X9_setFormula at h
  refine sw_K.of (by decide +kernel) rfl (Nat.le_of_ble_eq_true rfl) ?_
  show sw_W E sw_gX m_X9_setFormula d 0 [(0, .ref o0), (1, .int x1), (2, .int x2), (3, .int x3)] [] σ (sw_pV p)
  obtain ⟨o1, h⟩ := sw_ifs h
  obtain ⟨o2, h⟩ := sw_ifs h
  obtain ⟨o3, h⟩ := sw_ifs h
  obtain ⟨o4, h⟩ := sw_ifs h
  obtain ⟨o5, h⟩ := sw_ifs h
  obtain ⟨o6, h⟩ := sw_ifs h
  cases h
  exact B_X9_setFormula_0 o1 o2 (sw_inb_sp o3) o4 o5 (sw_inb_sp o6) ⟨rfl, rfl⟩
/-! StrayWool$Upland.fieldNamed(I)I -/
noncomputable def S_X9_fieldNamed_2 (c2 : sw_St → Nat → Int32 → Int32 → Option (Int32 × sw_St)) (σ : sw_St) (o0 : Nat) (x1 : Int32) (x2 : Int32) : Option (Int32 × sw_St) :=
  if sw_isO sw_gX o0 9 = true then (if (σ.1 o0 1) ≤ x2 then (some ((-1), σ)) else (if sw_isO sw_gX o0 9 = true then (if sw_isA sw_gX (o0 + 1) 0 = true then (if sw_inb x2 (sw_ln sw_gX (o0 + 1)) = true then (if (σ.1 (o0 + 1) x2.toNatClampNeg) = x1 then (some (x2, σ)) else (c2 σ o0 x1 (x2 + 1))) else none) else none) else none)) else none
theorem SC_X9_fieldNamed_2 {E : sw_E} {d : Nat} (hd : 0 ≤ d) {p : Int32 × sw_St} {c2 : sw_St → Nat → Int32 → Int32 → Option (Int32 × sw_St)} (h2 : ∀ (σ : sw_St) (o0 : Nat) (x1 : Int32) (x2 : Int32), c2 σ o0 x1 x2 = some p → sw_W E sw_gX m_X9_fieldNamed d 2 [(0, .ref o0), (1, .int x1), (2, .int x2)] [] σ (sw_pI p)) {σ : sw_St} {o0 : Nat} {x1 : Int32} {x2 : Int32} (h : S_X9_fieldNamed_2 c2 σ o0 x1 x2 = some p) : sw_W E sw_gX m_X9_fieldNamed d 2 [(0, .ref o0), (1, .int x1), (2, .int x2)] [] σ (sw_pI p) := by
  unfold S_X9_fieldNamed_2 at h
  obtain ⟨o1, h⟩ := sw_ifs h
  refine B_X9_fieldNamed_2 o1 (fun hc => ?_) (fun hc => ?_)
  · rw [if_pos hc] at h
    cases h
    exact B_X9_fieldNamed_28  ⟨_, rfl, rfl, rfl⟩
  · rw [if_neg hc] at h
    obtain ⟨o2, h⟩ := sw_ifs h
    obtain ⟨o3, h⟩ := sw_ifs h
    obtain ⟨o4, h⟩ := sw_ifs h
    refine B_X9_fieldNamed_10 o2 o3 (sw_inb_sp o4) (fun hc => ?_) (fun hc => ?_)
    · rw [if_neg hc] at h
      refine B_X9_fieldNamed_22  ?_
      exact h2 _ _ _ _ h
    · rw [if_pos hc] at h
      cases h
      exact B_X9_fieldNamed_20  ⟨_, rfl, rfl, rfl⟩
noncomputable def L_X9_fieldNamed_2 : Nat → sw_St → Nat → Int32 → Int32 → Option (Int32 × sw_St)
  | 0, _, _, _, _ => none
  | k + 1, σ, o0, x1, x2 => S_X9_fieldNamed_2 (fun σ o0 x1 x2 => L_X9_fieldNamed_2 k σ o0 x1 x2) σ o0 x1 x2
theorem LC_X9_fieldNamed_2 {E : sw_E} {d : Nat} (hd : 0 ≤ d) {p : Int32 × sw_St} : ∀ (k : Nat) (σ : sw_St) (o0 : Nat) (x1 : Int32) (x2 : Int32), L_X9_fieldNamed_2 k σ o0 x1 x2 = some p → sw_W E sw_gX m_X9_fieldNamed d 2 [(0, .ref o0), (1, .int x1), (2, .int x2)] [] σ (sw_pI p) := by
  intro k
  induction k with
  | zero => intro σ o0 x1 x2 h; cases h
  | succ k ih => intro σ o0 x1 x2 h; exact SC_X9_fieldNamed_2 hd ih h
noncomputable def F_X9_fieldNamed (σ : sw_St) (o0 : Nat) (x1 : Int32) : Option (Int32 × sw_St) :=
  L_X9_fieldNamed_2 sw_fuel σ o0 x1 0
theorem FC_X9_fieldNamed {E : sw_E} {d : Nat} (hd : 0 ≤ d) {p : Int32 × sw_St} {σ : sw_St} {o0 : Nat} {x1 : Int32} (h : F_X9_fieldNamed σ o0 x1 = some p) : sw_KI E sw_gX m_X9_fieldNamed d [.ref o0, .int x1] σ (fun v s => v = p.1 ∧ s = p.2) := by
  unfold F_X9_fieldNamed at h
  refine sw_K.of (by decide +kernel) rfl (Nat.le_of_ble_eq_true rfl) ?_
  show sw_W E sw_gX m_X9_fieldNamed d 0 [(0, .ref o0), (1, .int x1)] [] σ (sw_pI p)
  refine B_X9_fieldNamed_0  ?_
  exact LC_X9_fieldNamed_2 hd _ _ _ _ _ h
/-! StrayWool$Upland.sheepNamed(I)I -/
noncomputable def S_X9_sheepNamed_2 (c2 : sw_St → Nat → Int32 → Int32 → Option (Int32 × sw_St)) (σ : sw_St) (o0 : Nat) (x1 : Int32) (x2 : Int32) : Option (Int32 × sw_St) :=
  if sw_isO sw_gX o0 9 = true then (if (σ.1 o0 3) ≤ x2 then (some ((-1), σ)) else (if sw_isO sw_gX o0 9 = true then (if sw_isA sw_gX (o0 + 6) 0 = true then (if sw_inb x2 (sw_ln sw_gX (o0 + 6)) = true then (if (σ.1 (o0 + 6) x2.toNatClampNeg) = x1 then (some (x2, σ)) else (c2 σ o0 x1 (x2 + 1))) else none) else none) else none)) else none
theorem SC_X9_sheepNamed_2 {E : sw_E} {d : Nat} (hd : 0 ≤ d) {p : Int32 × sw_St} {c2 : sw_St → Nat → Int32 → Int32 → Option (Int32 × sw_St)} (h2 : ∀ (σ : sw_St) (o0 : Nat) (x1 : Int32) (x2 : Int32), c2 σ o0 x1 x2 = some p → sw_W E sw_gX m_X9_sheepNamed d 2 [(0, .ref o0), (1, .int x1), (2, .int x2)] [] σ (sw_pI p)) {σ : sw_St} {o0 : Nat} {x1 : Int32} {x2 : Int32} (h : S_X9_sheepNamed_2 c2 σ o0 x1 x2 = some p) : sw_W E sw_gX m_X9_sheepNamed d 2 [(0, .ref o0), (1, .int x1), (2, .int x2)] [] σ (sw_pI p) := by
  unfold S_X9_sheepNamed_2 at h
  obtain ⟨o1, h⟩ := sw_ifs h
  refine B_X9_sheepNamed_2 o1 (fun hc => ?_) (fun hc => ?_)
  · rw [if_pos hc] at h
    cases h
    exact B_X9_sheepNamed_28  ⟨_, rfl, rfl, rfl⟩
  · rw [if_neg hc] at h
    obtain ⟨o2, h⟩ := sw_ifs h
    obtain ⟨o3, h⟩ := sw_ifs h
    obtain ⟨o4, h⟩ := sw_ifs h
    refine B_X9_sheepNamed_10 o2 o3 (sw_inb_sp o4) (fun hc => ?_) (fun hc => ?_)
    · rw [if_neg hc] at h
      refine B_X9_sheepNamed_22  ?_
      exact h2 _ _ _ _ h
    · rw [if_pos hc] at h
      cases h
      exact B_X9_sheepNamed_20  ⟨_, rfl, rfl, rfl⟩
noncomputable def L_X9_sheepNamed_2 : Nat → sw_St → Nat → Int32 → Int32 → Option (Int32 × sw_St)
  | 0, _, _, _, _ => none
  | k + 1, σ, o0, x1, x2 => S_X9_sheepNamed_2 (fun σ o0 x1 x2 => L_X9_sheepNamed_2 k σ o0 x1 x2) σ o0 x1 x2
theorem LC_X9_sheepNamed_2 {E : sw_E} {d : Nat} (hd : 0 ≤ d) {p : Int32 × sw_St} : ∀ (k : Nat) (σ : sw_St) (o0 : Nat) (x1 : Int32) (x2 : Int32), L_X9_sheepNamed_2 k σ o0 x1 x2 = some p → sw_W E sw_gX m_X9_sheepNamed d 2 [(0, .ref o0), (1, .int x1), (2, .int x2)] [] σ (sw_pI p) := by
  intro k
  induction k with
  | zero => intro σ o0 x1 x2 h; cases h
  | succ k ih => intro σ o0 x1 x2 h; exact SC_X9_sheepNamed_2 hd ih h
noncomputable def F_X9_sheepNamed (σ : sw_St) (o0 : Nat) (x1 : Int32) : Option (Int32 × sw_St) :=
  L_X9_sheepNamed_2 sw_fuel σ o0 x1 0
theorem FC_X9_sheepNamed {E : sw_E} {d : Nat} (hd : 0 ≤ d) {p : Int32 × sw_St} {σ : sw_St} {o0 : Nat} {x1 : Int32} (h : F_X9_sheepNamed σ o0 x1 = some p) : sw_KI E sw_gX m_X9_sheepNamed d [.ref o0, .int x1] σ (fun v s => v = p.1 ∧ s = p.2) := by
  unfold F_X9_sheepNamed at h
  refine sw_K.of (by decide +kernel) rfl (Nat.le_of_ble_eq_true rfl) ?_
  show sw_W E sw_gX m_X9_sheepNamed d 0 [(0, .ref o0), (1, .int x1)] [] σ (sw_pI p)
  refine B_X9_sheepNamed_0  ?_
  exact LC_X9_sheepNamed_2 hd _ _ _ _ _ h
/-! StrayWool$Upland.beyond(II)I -/
noncomputable def S_X9_beyond_37 (σ : sw_St) (sx0 : Int32) : Option (Int32 × sw_St) :=
  some (sx0, σ)
theorem SC_X9_beyond_37 {E : sw_E} {d : Nat} (hd : 0 ≤ d) {p : Int32 × sw_St} {σ : sw_St} {sx0 : Int32} (h : S_X9_beyond_37 σ sx0 = some p) : sw_W E sw_gX m_X9_beyond d 37 [] [.int sx0] σ (sw_pI p) := by
  unfold S_X9_beyond_37 at h
  cases h
  exact B_X9_beyond_37  ⟨_, rfl, rfl, rfl⟩
noncomputable def F_X9_beyond (σ : sw_St) (o0 : Nat) (x1 : Int32) (x2 : Int32) : Option (Int32 × sw_St) :=
  if sw_isO sw_gX o0 9 = true then (if sw_isA sw_gX (o0 + 3) 0 = true then (if sw_inb x1 (sw_ln sw_gX (o0 + 3)) = true then (if (σ.1 (o0 + 3) x1.toNatClampNeg) = x2 then (if sw_isO sw_gX o0 9 = true then (if sw_isA sw_gX (o0 + 4) 0 = true then (if sw_inb x1 (sw_ln sw_gX (o0 + 4)) = true then (some (σ.1 (o0 + 4) x1.toNatClampNeg, σ)) else none) else none) else none) else (if sw_isO sw_gX o0 9 = true then (if sw_isA sw_gX (o0 + 4) 0 = true then (if sw_inb x1 (sw_ln sw_gX (o0 + 4)) = true then (if (σ.1 (o0 + 4) x1.toNatClampNeg) = x2 then (if sw_isO sw_gX o0 9 = true then (if sw_isA sw_gX (o0 + 3) 0 = true then (if sw_inb x1 (sw_ln sw_gX (o0 + 3)) = true then (S_X9_beyond_37 σ (σ.1 (o0 + 3) x1.toNatClampNeg)) else none) else none) else none) else (S_X9_beyond_37 σ (-1))) else none) else none) else none)) else none) else none) else none
theorem FC_X9_beyond {E : sw_E} {d : Nat} (hd : 0 ≤ d) {p : Int32 × sw_St} {σ : sw_St} {o0 : Nat} {x1 : Int32} {x2 : Int32} (h : F_X9_beyond σ o0 x1 x2 = some p) : sw_KI E sw_gX m_X9_beyond d [.ref o0, .int x1, .int x2] σ (fun v s => v = p.1 ∧ s = p.2) := by
  unfold F_X9_beyond at h
  refine sw_K.of (by decide +kernel) rfl (Nat.le_of_ble_eq_true rfl) ?_
  show sw_W E sw_gX m_X9_beyond d 0 [(0, .ref o0), (1, .int x1), (2, .int x2)] [] σ (sw_pI p)
  obtain ⟨o1, h⟩ := sw_ifs h
  obtain ⟨o2, h⟩ := sw_ifs h
  obtain ⟨o3, h⟩ := sw_ifs h
  refine B_X9_beyond_0 o1 o2 (sw_inb_sp o3) (fun hc => ?_) (fun hc => ?_)
  · rw [if_neg hc] at h
    obtain ⟨o4, h⟩ := sw_ifs h
    obtain ⟨o5, h⟩ := sw_ifs h
    obtain ⟨o6, h⟩ := sw_ifs h
    refine B_X9_beyond_17 o4 o5 (sw_inb_sp o6) (fun hc => ?_) (fun hc => ?_)
    · rw [if_neg hc] at h
      refine B_X9_beyond_36  ?_
      exact SC_X9_beyond_37 hd h
    · rw [if_pos hc] at h
      obtain ⟨o7, h⟩ := sw_ifs h
      obtain ⟨o8, h⟩ := sw_ifs h
      obtain ⟨o9, h⟩ := sw_ifs h
      refine B_X9_beyond_27 o7 o8 (sw_inb_sp o9) ?_
      exact SC_X9_beyond_37 hd h
  · rw [if_pos hc] at h
    obtain ⟨o10, h⟩ := sw_ifs h
    obtain ⟨o11, h⟩ := sw_ifs h
    obtain ⟨o12, h⟩ := sw_ifs h
    cases h
    exact B_X9_beyond_10 o10 o11 (sw_inb_sp o12) ⟨_, rfl, rfl, rfl⟩
/-! StrayWool.fault(I)I -/
noncomputable def F_X10_fault (σ : sw_St) (x1 : Int32) : Option (Int32 × sw_St) :=
  if x1 = 0 then (some (σ.1 2 5, σ)) else if x1 = 1 then (some (σ.1 2 6, σ)) else (some ((-1), σ))
theorem FC_X10_fault {E : sw_E} {d : Nat} (hd : 0 ≤ d) {p : Int32 × sw_St} {σ : sw_St} {x1 : Int32} (h : F_X10_fault σ x1 = some p) : sw_KI E sw_gX m_X10_fault d [.ref 0, .int x1] σ (fun v s => v = p.1 ∧ s = p.2) := by
  unfold F_X10_fault at h
  refine sw_K.of (by decide +kernel) rfl (Nat.le_of_ble_eq_true rfl) ?_
  show sw_W E sw_gX m_X10_fault d 0 [(0, .ref 0), (1, .int x1)] [] σ (sw_pI p)
  refine B_X10_fault_0  (fun hc => ?_) (fun hc => ?_) (fun n0 n1 => ?_)
  · rw [if_pos hc] at h
    cases h
    exact B_X10_fault_28  ⟨_, rfl, rfl, rfl⟩
  · rw [if_neg (fun z => absurd (hc.symm.trans z) (by decide)), if_pos hc] at h
    cases h
    exact B_X10_fault_36  ⟨_, rfl, rfl, rfl⟩
  · rw [if_neg n0, if_neg n1] at h
    cases h
    exact B_X10_fault_44  ⟨_, rfl, rfl, rfl⟩
/-! StrayWool.kept(II)I -/
noncomputable def S_X10_kept_28 (σ : sw_St) (sx0 : Int32) : Option (Int32 × sw_St) :=
  some (sx0, σ)
theorem SC_X10_kept_28 {E : sw_E} {d : Nat} (hd : 1 ≤ d) {p : Int32 × sw_St} {σ : sw_St} {sx0 : Int32} (h : S_X10_kept_28 σ sx0 = some p) : sw_W E sw_gX m_X10_kept d 28 [] [.int sx0] σ (sw_pI p) := by
  unfold S_X10_kept_28 at h
  cases h
  exact B_X10_kept_28  ⟨_, rfl, rfl, rfl⟩
noncomputable def S_X10_kept_15 (σ : sw_St) : Option (Int32 × sw_St) :=
  S_X10_kept_28 σ (-1)
theorem SC_X10_kept_15 {E : sw_E} {d : Nat} (hd : 1 ≤ d) {p : Int32 × sw_St} {σ : sw_St} (h : S_X10_kept_15 σ  = some p) : sw_W E sw_gX m_X10_kept d 15 [] [] σ (sw_pI p) := by
  unfold S_X10_kept_15 at h
  refine B_X10_kept_15  ?_
  exact SC_X10_kept_28 hd h
noncomputable def F_X10_kept (σ : sw_St) (x1 : Int32) (x2 : Int32) : Option (Int32 × sw_St) :=
  if x1 < 0 then (S_X10_kept_15 σ ) else (if x1 < (σ.1 38 11) then ((F_X8_keptPart σ 38 x1 x2).bind fun q1 => S_X10_kept_28 q1.2 q1.1) else (S_X10_kept_15 σ ))
theorem FC_X10_kept {E : sw_E} {d : Nat} (hd : 1 ≤ d) {p : Int32 × sw_St} {σ : sw_St} {x1 : Int32} {x2 : Int32} (h : F_X10_kept σ x1 x2 = some p) : sw_KI E sw_gX m_X10_kept d [.ref 0, .int x1, .int x2] σ (fun v s => v = p.1 ∧ s = p.2) := by
  unfold F_X10_kept at h
  refine sw_K.of (by decide +kernel) rfl (Nat.le_of_ble_eq_true rfl) ?_
  show sw_W E sw_gX m_X10_kept d 0 [(0, .ref 0), (1, .int x1), (2, .int x2)] [] σ (sw_pI p)
  refine B_X10_kept_0  (fun hc => ?_) (fun hc => ?_)
  · rw [if_pos hc] at h
    exact SC_X10_kept_15 hd h
  · rw [if_neg hc] at h
    refine B_X10_kept_4  (fun hc => ?_) (fun hc => ?_)
    · rw [if_pos hc] at h
      obtain ⟨q1, hq, h⟩ := sw_bnd h
      refine B_X10_kept_19  (FC_X8_keptPart (Nat.le_refl _) hq) (Nat.lt_of_lt_of_le (by decide) hd) (fun v s hvs => ?_)
      obtain ⟨hv1, hv2⟩ := hvs; subst hv1; subst hv2
      exact SC_X10_kept_28 hd h
    · rw [if_neg hc] at h
      exact SC_X10_kept_15 hd h

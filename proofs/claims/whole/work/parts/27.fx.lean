/-! StrayWool$Reader.takeName()I -/
noncomputable def S_X6_takeName_20 (σ : sw_St) : Option (Int32 × sw_St) :=
  (F_X6_fail σ 1 (σ.1 2 3)).bind fun q1 => some ((-1), q1.2)
theorem SC_X6_takeName_20 {E : sw_E} {d : Nat} (hd : 6 ≤ d) {p : Int32 × sw_St} {σ : sw_St} (h : S_X6_takeName_20 σ  = some p) : sw_W E sw_gX m_X6_takeName d 20 [(0, .ref 2)] [] σ (sw_pI p) := by
  unfold S_X6_takeName_20 at h
  obtain ⟨q1, hq, h⟩ := sw_bnd h
  refine B_X6_takeName_20  (FC_X6_fail (Nat.le_refl _) hq) (Nat.lt_of_lt_of_le (by decide) hd) (fun v s hvs => ?_)
  obtain ⟨hv1, hv2⟩ := hvs; subst hv1; subst hv2
  cases h
  exact B_X6_takeName_29  ⟨_, rfl, rfl, rfl⟩
noncomputable def S_X6_takeName_105 (c68 : sw_St → Int32 → Int32 → Option (Int32 × sw_St)) (σ : sw_St) (x2 : Int32) (sx0 : Int32) (sx1 : Int32) : Option (Int32 × sw_St) :=
  c68 σ (sx1 ||| sx0) (x2 + 1)
theorem SC_X6_takeName_105 {E : sw_E} {d : Nat} (hd : 6 ≤ d) {p : Int32 × sw_St} {c68 : sw_St → Int32 → Int32 → Option (Int32 × sw_St)} (h68 : ∀ (σ : sw_St) (x1 : Int32) (x2 : Int32), c68 σ x1 x2 = some p → sw_W E sw_gX m_X6_takeName d 68 [(0, .ref 2), (1, .int x1), (2, .int x2)] [] σ (sw_pI p)) {σ : sw_St} {x2 : Int32} {sx0 : Int32} {sx1 : Int32} (h : S_X6_takeName_105 c68 σ x2 sx0 sx1 = some p) : sw_W E sw_gX m_X6_takeName d 105 [(0, .ref 2), (2, .int x2)] [.int sx0, .int sx1] σ (sw_pI p) := by
  unfold S_X6_takeName_105 at h
  refine B_X6_takeName_105  ?_
  exact h68 _ _ _ h
noncomputable def S_X6_takeName_68 (c68 : sw_St → Int32 → Int32 → Option (Int32 × sw_St)) (σ : sw_St) (x1 : Int32) (x2 : Int32) : Option (Int32 × sw_St) :=
  if ((σ.1 2 3) + 6) ≤ x2 then ((F_X6_advance σ ).bind fun q1 => some (x1, q1.2)) else (if (σ.1 2 4) ≤ x2 then (S_X6_takeName_105 c68 σ x2 0 (x1 <<< (5 &&& 31))) else ((σ.2.2 2 0).bind fun w2 => (if sw_isA sw_gX w2 1 = true then (if sw_inb x2 (sw_ln sw_gX w2) = true then (S_X6_takeName_105 c68 σ x2 (((σ.1 w2 x2.toNatClampNeg) - 97) + 1) (x1 <<< (5 &&& 31))) else none) else none)))
theorem SC_X6_takeName_68 {E : sw_E} {d : Nat} (hd : 6 ≤ d) {p : Int32 × sw_St} {c68 : sw_St → Int32 → Int32 → Option (Int32 × sw_St)} (h68 : ∀ (σ : sw_St) (x1 : Int32) (x2 : Int32), c68 σ x1 x2 = some p → sw_W E sw_gX m_X6_takeName d 68 [(0, .ref 2), (1, .int x1), (2, .int x2)] [] σ (sw_pI p)) {σ : sw_St} {x1 : Int32} {x2 : Int32} (h : S_X6_takeName_68 c68 σ x1 x2 = some p) : sw_W E sw_gX m_X6_takeName d 68 [(0, .ref 2), (1, .int x1), (2, .int x2)] [] σ (sw_pI p) := by
  unfold S_X6_takeName_68 at h
  refine B_X6_takeName_68  (fun hc => ?_) (fun hc => ?_)
  · rw [if_pos hc] at h
    obtain ⟨q1, hq, h⟩ := sw_bnd h
    refine B_X6_takeName_113  (FC_X6_advance (Nat.le_refl _) hq) (Nat.lt_of_lt_of_le (by decide) hd) (fun s hvs => ?_)
    subst hvs
    cases h
    exact B_X6_takeName_117  ⟨_, rfl, rfl, rfl⟩
  · rw [if_neg hc] at h
    refine B_X6_takeName_79  (fun hc => ?_) (fun hc => ?_)
    · rw [if_pos hc] at h
      refine B_X6_takeName_104  ?_
      exact SC_X6_takeName_105 hd h68 h
    · rw [if_neg hc] at h
      obtain ⟨w2, ow2, h⟩ := sw_bnd h
      obtain ⟨o3, h⟩ := sw_ifs h
      obtain ⟨o4, h⟩ := sw_ifs h
      refine B_X6_takeName_90 ow2 o3 (sw_inb_sp o4) ?_
      exact SC_X6_takeName_105 hd h68 h
noncomputable def L_X6_takeName_68 : Nat → sw_St → Int32 → Int32 → Option (Int32 × sw_St)
  | 0, _, _, _ => none
  | k + 1, σ, x1, x2 => S_X6_takeName_68 (fun σ x1 x2 => L_X6_takeName_68 k σ x1 x2) σ x1 x2
theorem LC_X6_takeName_68 {E : sw_E} {d : Nat} (hd : 6 ≤ d) {p : Int32 × sw_St} : ∀ (k : Nat) (σ : sw_St) (x1 : Int32) (x2 : Int32), L_X6_takeName_68 k σ x1 x2 = some p → sw_W E sw_gX m_X6_takeName d 68 [(0, .ref 2), (1, .int x1), (2, .int x2)] [] σ (sw_pI p) := by
  intro k
  induction k with
  | zero => intro σ x1 x2 h; cases h
  | succ k ih => intro σ x1 x2 h; exact SC_X6_takeName_68 hd ih h
noncomputable def F_X6_takeName (σ : sw_St) : Option (Int32 × sw_St) :=
  if (σ.1 2 2) < 281 then (S_X6_takeName_20 σ ) else (if (σ.1 2 2) ≤ 287 then (if ((σ.1 2 4) - (σ.1 2 3)) ≤ 6 then (L_X6_takeName_68 sw_fuel σ 0 (σ.1 2 3)) else ((F_X6_fail σ 1 ((σ.1 2 3) + 6)).bind fun q1 => some ((-1), q1.2))) else (S_X6_takeName_20 σ ))
theorem FC_X6_takeName {E : sw_E} {d : Nat} (hd : 6 ≤ d) {p : Int32 × sw_St} {σ : sw_St} (h : F_X6_takeName σ  = some p) : sw_KI E sw_gX m_X6_takeName d [.ref 2] σ (fun v s => v = p.1 ∧ s = p.2) := by
  unfold F_X6_takeName at h
  refine sw_K.of (by decide +kernel) rfl (Nat.le_of_ble_eq_true rfl) ?_
  show sw_W E sw_gX m_X6_takeName d 0 [(0, .ref 2)] [] σ (sw_pI p)
  refine B_X6_takeName_0  (fun hc => ?_) (fun hc => ?_)
  · rw [if_pos hc] at h
    exact SC_X6_takeName_20 hd h
  · rw [if_neg hc] at h
    refine B_X6_takeName_10  (fun hc => ?_) (fun hc => ?_)
    · rw [if_pos hc] at h
      refine B_X6_takeName_32  (fun hc => ?_) (fun hc => ?_)
      · rw [if_pos hc] at h
        refine B_X6_takeName_61  ?_
        exact LC_X6_takeName_68 hd _ _ _ _ h
      · rw [if_neg hc] at h
        obtain ⟨q1, hq, h⟩ := sw_bnd h
        refine B_X6_takeName_46  (FC_X6_fail (Nat.le_refl _) hq) (Nat.lt_of_lt_of_le (by decide) hd) (fun v s hvs => ?_)
        obtain ⟨hv1, hv2⟩ := hvs; subst hv1; subst hv2
        cases h
        exact B_X6_takeName_58  ⟨_, rfl, rfl, rfl⟩
    · rw [if_neg hc] at h
      exact SC_X6_takeName_20 hd h
/-! StrayWool$Reckoner.step(I)V -/
noncomputable def S_X7_step_247 (σ : sw_St) : Option (Unit × sw_St) :=
  some ((), σ)
theorem SC_X7_step_247 {E : sw_E} {d : Nat} (hd : 1 ≤ d) {p : Unit × sw_St} {σ : sw_St} (h : S_X7_step_247 σ  = some p) : sw_W E sw_gX m_X7_step d 247 [] [] σ (sw_pV p) := by
  unfold S_X7_step_247 at h
  cases h
  exact B_X7_step_247  ⟨rfl, rfl⟩
noncomputable def S_X7_step_167 (σ : sw_St) (sy0 : Int64) : Option (Unit × sw_St) :=
  (F_X7_push σ sy0).bind fun q1 => S_X7_step_247 q1.2 
theorem SC_X7_step_167 {E : sw_E} {d : Nat} (hd : 1 ≤ d) {p : Unit × sw_St} {σ : sw_St} {sy0 : Int64} (h : S_X7_step_167 σ sy0 = some p) : sw_W E sw_gX m_X7_step d 167 [] [.long sy0, .ref 34] σ (sw_pV p) := by
  unfold S_X7_step_167 at h
  obtain ⟨q1, hq, h⟩ := sw_bnd h
  refine B_X7_step_167  (FC_X7_push (Nat.le_refl _) hq) (Nat.lt_of_lt_of_le (by decide) hd) (fun s hvs => ?_)
  subst hvs
  refine B_X7_step_170  ?_
  exact SC_X7_step_247 hd h
noncomputable def S_X7_step_184 (σ : sw_St) (sy0 : Int64) : Option (Unit × sw_St) :=
  (F_X7_push σ sy0).bind fun q1 => S_X7_step_247 q1.2 
theorem SC_X7_step_184 {E : sw_E} {d : Nat} (hd : 1 ≤ d) {p : Unit × sw_St} {σ : sw_St} {sy0 : Int64} (h : S_X7_step_184 σ sy0 = some p) : sw_W E sw_gX m_X7_step d 184 [] [.long sy0, .ref 34] σ (sw_pV p) := by
  unfold S_X7_step_184 at h
  obtain ⟨q1, hq, h⟩ := sw_bnd h
  refine B_X7_step_184  (FC_X7_push (Nat.le_refl _) hq) (Nat.lt_of_lt_of_le (by decide) hd) (fun s hvs => ?_)
  subst hvs
  refine B_X7_step_187  ?_
  exact SC_X7_step_247 hd h
noncomputable def S_X7_step_201 (σ : sw_St) (sy0 : Int64) : Option (Unit × sw_St) :=
  (F_X7_push σ sy0).bind fun q1 => S_X7_step_247 q1.2 
theorem SC_X7_step_201 {E : sw_E} {d : Nat} (hd : 1 ≤ d) {p : Unit × sw_St} {σ : sw_St} {sy0 : Int64} (h : S_X7_step_201 σ sy0 = some p) : sw_W E sw_gX m_X7_step d 201 [] [.long sy0, .ref 34] σ (sw_pV p) := by
  unfold S_X7_step_201 at h
  obtain ⟨q1, hq, h⟩ := sw_bnd h
  refine B_X7_step_201  (FC_X7_push (Nat.le_refl _) hq) (Nat.lt_of_lt_of_le (by decide) hd) (fun s hvs => ?_)
  subst hvs
  refine B_X7_step_204  ?_
  exact SC_X7_step_247 hd h
noncomputable def S_X7_step_218 (σ : sw_St) (sy0 : Int64) : Option (Unit × sw_St) :=
  (F_X7_push σ sy0).bind fun q1 => S_X7_step_247 q1.2 
theorem SC_X7_step_218 {E : sw_E} {d : Nat} (hd : 1 ≤ d) {p : Unit × sw_St} {σ : sw_St} {sy0 : Int64} (h : S_X7_step_218 σ sy0 = some p) : sw_W E sw_gX m_X7_step d 218 [] [.long sy0, .ref 34] σ (sw_pV p) := by
  unfold S_X7_step_218 at h
  obtain ⟨q1, hq, h⟩ := sw_bnd h
  refine B_X7_step_218  (FC_X7_push (Nat.le_refl _) hq) (Nat.lt_of_lt_of_le (by decide) hd) (fun s hvs => ?_)
  subst hvs
  refine B_X7_step_221  ?_
  exact SC_X7_step_247 hd h
noncomputable def S_X7_step_224 (σ : sw_St) (x2 : Int32) (x3 : Int32) : Option (Unit × sw_St) :=
  (F_J9_min_7cf53 σ x3 x2).bind fun q1 => (F_X7_push q1.2 q1.1.toInt64).bind fun q2 => S_X7_step_247 q2.2 
theorem SC_X7_step_224 {E : sw_E} {d : Nat} (hd : 1 ≤ d) {p : Unit × sw_St} {σ : sw_St} {x2 : Int32} {x3 : Int32} (h : S_X7_step_224 σ x2 x3 = some p) : sw_W E sw_gX m_X7_step d 224 [(0, .ref 34), (2, .int x2), (3, .int x3)] [] σ (sw_pV p) := by
  unfold S_X7_step_224 at h
  obtain ⟨q1, hq, h⟩ := sw_bnd h
  refine B_X7_step_224  (FC_J9_min_7cf53 (Nat.le_refl _) hq) (Nat.lt_of_lt_of_le (by decide) hd) (fun v s hvs => ?_)
  obtain ⟨hv1, hv2⟩ := hvs; subst hv1; subst hv2
  obtain ⟨q2, hq, h⟩ := sw_bnd h
  refine B_X7_step_230  (FC_X7_push (Nat.le_refl _) hq) (Nat.lt_of_lt_of_le (by decide) hd) (fun s hvs => ?_)
  subst hvs
  refine B_X7_step_234  ?_
  exact SC_X7_step_247 hd h
noncomputable def S_X7_step_237 (σ : sw_St) (x2 : Int32) (x3 : Int32) : Option (Unit × sw_St) :=
  (F_J9_max_7cf53 σ x3 x2).bind fun q1 => (F_X7_push q1.2 q1.1.toInt64).bind fun q2 => S_X7_step_247 q2.2 
theorem SC_X7_step_237 {E : sw_E} {d : Nat} (hd : 1 ≤ d) {p : Unit × sw_St} {σ : sw_St} {x2 : Int32} {x3 : Int32} (h : S_X7_step_237 σ x2 x3 = some p) : sw_W E sw_gX m_X7_step d 237 [(0, .ref 34), (2, .int x2), (3, .int x3)] [] σ (sw_pV p) := by
  unfold S_X7_step_237 at h
  obtain ⟨q1, hq, h⟩ := sw_bnd h
  refine B_X7_step_237  (FC_J9_max_7cf53 (Nat.le_refl _) hq) (Nat.lt_of_lt_of_le (by decide) hd) (fun v s hvs => ?_)
  obtain ⟨hv1, hv2⟩ := hvs; subst hv1; subst hv2
  obtain ⟨q2, hq, h⟩ := sw_bnd h
  refine B_X7_step_243  (FC_X7_push (Nat.le_refl _) hq) (Nat.lt_of_lt_of_le (by decide) hd) (fun s hvs => ?_)
  subst hvs
  exact SC_X7_step_247 hd h
noncomputable def S_X7_step_31 (σ : sw_St) (sy0 : Int64) : Option (Unit × sw_St) :=
  (F_X7_push σ sy0).bind fun q1 => some ((), q1.2)
theorem SC_X7_step_31 {E : sw_E} {d : Nat} (hd : 1 ≤ d) {p : Unit × sw_St} {σ : sw_St} {sy0 : Int64} (h : S_X7_step_31 σ sy0 = some p) : sw_W E sw_gX m_X7_step d 31 [] [.long sy0, .ref 34] σ (sw_pV p) := by
  unfold S_X7_step_31 at h
  obtain ⟨q1, hq, h⟩ := sw_bnd h
  refine B_X7_step_31  (FC_X7_push (Nat.le_refl _) hq) (Nat.lt_of_lt_of_le (by decide) hd) (fun s hvs => ?_)
  subst hvs
  cases h
  exact B_X7_step_34  ⟨rfl, rfl⟩
noncomputable def F_X7_step (σ : sw_St) (x1 : Int32) : Option (Unit × sw_St) :=
  if 10010 ≤ x1 then ((F_X7_pop σ ).bind fun q1 => if x1 = 10021 then ((F_X7_push q1.2 ((1 - q1.1).toInt64)).bind fun q7 => some ((), q7.2)) else ((F_X7_pop q1.2 ).bind fun q2 => if x1 = 10010 then ((F_X7_push q2.2 (q2.1.toInt64 + q1.1.toInt64)).bind fun q3 => S_X7_step_247 q3.2 ) else if x1 = 10011 then ((F_X7_push q2.2 (q2.1.toInt64 - q1.1.toInt64)).bind fun q4 => S_X7_step_247 q4.2 ) else if x1 = 10012 then ((F_X7_push q2.2 (q2.1.toInt64 * q1.1.toInt64)).bind fun q5 => S_X7_step_247 q5.2 ) else if x1 = 10013 then (if q1.1 = 0 then (S_X7_step_167 q2.2 0) else ((F_J9_floorDiv_7cf53 q2.2 q2.1 q1.1).bind fun q6 => S_X7_step_167 q6.2 q6.1.toInt64)) else if x1 = 10014 then (if q1.1 ≤ q2.1 then (S_X7_step_184 q2.2 0) else (S_X7_step_184 q2.2 1)) else if x1 = 10015 then (if q2.1 ≤ q1.1 then (S_X7_step_201 q2.2 0) else (S_X7_step_201 q2.2 1)) else if x1 = 10016 then (if q2.1 = q1.1 then (S_X7_step_218 q2.2 1) else (S_X7_step_218 q2.2 0)) else if x1 = 10017 then (S_X7_step_224 q2.2 q1.1 q2.1) else if x1 = 10018 then (S_X7_step_237 q2.2 q1.1 q2.1) else if x1 = 10019 then (S_X7_step_224 q2.2 q1.1 q2.1) else (S_X7_step_237 q2.2 q1.1 q2.1))) else (if 10000 ≤ x1 then (if sw_inb (x1 - 10000) 10 = true then (S_X7_step_31 σ ((σ.1 35 ((x1 - 10000).toNatClampNeg)).toInt64)) else none) else (S_X7_step_31 σ x1.toInt64))
theorem FC_X7_step {E : sw_E} {d : Nat} (hd : 1 ≤ d) {p : Unit × sw_St} {σ : sw_St} {x1 : Int32} (h : F_X7_step σ x1 = some p) : sw_KV E sw_gX m_X7_step d [.ref 34, .int x1] σ (fun s => s = p.2) := by
  unfold F_X7_step at h
  refine sw_K.of (by decide +kernel) rfl (Nat.le_of_ble_eq_true rfl) ?_
  show sw_W E sw_gX m_X7_step d 0 [(0, .ref 34), (1, .int x1)] [] σ (sw_pV p)
  refine B_X7_step_0  (fun hc => ?_) (fun hc => ?_)
  · rw [if_pos hc] at h
    obtain ⟨q1, hq, h⟩ := sw_bnd h
    refine B_X7_step_35  (FC_X7_pop (Nat.le_refl _) hq) (Nat.lt_of_lt_of_le (by decide) hd) (fun v s hvs => ?_)
    obtain ⟨hv1, hv2⟩ := hvs; subst hv1; subst hv2
    refine B_X7_step_39  (fun hc => ?_) (fun hc => ?_)
    · rw [if_neg hc] at h
      obtain ⟨q2, hq, h⟩ := sw_bnd h
      refine B_X7_step_56  (FC_X7_pop (Nat.le_refl _) hq) (Nat.lt_of_lt_of_le (by decide) hd) (fun v s hvs => ?_)
      obtain ⟨hv1, hv2⟩ := hvs; subst hv1; subst hv2
      refine B_X7_step_60  (fun hc => ?_) (fun hc => ?_) (fun hc => ?_) (fun hc => ?_) (fun hc => ?_) (fun hc => ?_) (fun hc => ?_) (fun hc => ?_) (fun hc => ?_) (fun hc => ?_) (fun n0 n1 n2 n3 n4 n5 n6 n7 n8 n9 => ?_)
      · rw [if_pos hc] at h
        obtain ⟨q3, hq, h⟩ := sw_bnd h
        refine B_X7_step_116  (FC_X7_push (Nat.le_refl _) hq) (Nat.lt_of_lt_of_le (by decide) hd) (fun s hvs => ?_)
        subst hvs
        refine B_X7_step_125  ?_
        exact SC_X7_step_247 hd h
      · rw [if_neg (fun z => absurd (hc.symm.trans z) (by decide)), if_pos hc] at h
        obtain ⟨q4, hq, h⟩ := sw_bnd h
        refine B_X7_step_128  (FC_X7_push (Nat.le_refl _) hq) (Nat.lt_of_lt_of_le (by decide) hd) (fun s hvs => ?_)
        subst hvs
        refine B_X7_step_137  ?_
        exact SC_X7_step_247 hd h
      · rw [if_neg (fun z => absurd (hc.symm.trans z) (by decide)), if_neg (fun z => absurd (hc.symm.trans z) (by decide)), if_pos hc] at h
        obtain ⟨q5, hq, h⟩ := sw_bnd h
        refine B_X7_step_140  (FC_X7_push (Nat.le_refl _) hq) (Nat.lt_of_lt_of_le (by decide) hd) (fun s hvs => ?_)
        subst hvs
        refine B_X7_step_149  ?_
        exact SC_X7_step_247 hd h
      · rw [if_neg (fun z => absurd (hc.symm.trans z) (by decide)), if_neg (fun z => absurd (hc.symm.trans z) (by decide)), if_neg (fun z => absurd (hc.symm.trans z) (by decide)), if_pos hc] at h
        refine B_X7_step_152  (fun hc => ?_) (fun hc => ?_)
        · rw [if_neg hc] at h
          obtain ⟨q6, hq, h⟩ := sw_bnd h
          refine B_X7_step_161  (FC_J9_floorDiv_7cf53 (Nat.le_refl _) hq) (Nat.lt_of_lt_of_le (by decide) hd) (fun v s hvs => ?_)
          obtain ⟨hv1, hv2⟩ := hvs; subst hv1; subst hv2
          refine B_X7_step_166  ?_
          exact SC_X7_step_167 hd h
        · rw [if_pos hc] at h
          refine B_X7_step_157  ?_
          exact SC_X7_step_167 hd h
      · rw [if_neg (fun z => absurd (hc.symm.trans z) (by decide)), if_neg (fun z => absurd (hc.symm.trans z) (by decide)), if_neg (fun z => absurd (hc.symm.trans z) (by decide)), if_neg (fun z => absurd (hc.symm.trans z) (by decide)), if_pos hc] at h
        refine B_X7_step_173  (fun hc => ?_) (fun hc => ?_)
        · rw [if_pos hc] at h
          refine B_X7_step_183  ?_
          exact SC_X7_step_184 hd h
        · rw [if_neg hc] at h
          refine B_X7_step_179  ?_
          exact SC_X7_step_184 hd h
      · rw [if_neg (fun z => absurd (hc.symm.trans z) (by decide)), if_neg (fun z => absurd (hc.symm.trans z) (by decide)), if_neg (fun z => absurd (hc.symm.trans z) (by decide)), if_neg (fun z => absurd (hc.symm.trans z) (by decide)), if_neg (fun z => absurd (hc.symm.trans z) (by decide)), if_pos hc] at h
        refine B_X7_step_190  (fun hc => ?_) (fun hc => ?_)
        · rw [if_pos hc] at h
          refine B_X7_step_200  ?_
          exact SC_X7_step_201 hd h
        · rw [if_neg hc] at h
          refine B_X7_step_196  ?_
          exact SC_X7_step_201 hd h
      · rw [if_neg (fun z => absurd (hc.symm.trans z) (by decide)), if_neg (fun z => absurd (hc.symm.trans z) (by decide)), if_neg (fun z => absurd (hc.symm.trans z) (by decide)), if_neg (fun z => absurd (hc.symm.trans z) (by decide)), if_neg (fun z => absurd (hc.symm.trans z) (by decide)), if_neg (fun z => absurd (hc.symm.trans z) (by decide)), if_pos hc] at h
        refine B_X7_step_207  (fun hc => ?_) (fun hc => ?_)
        · rw [if_neg hc] at h
          refine B_X7_step_217  ?_
          exact SC_X7_step_218 hd h
        · rw [if_pos hc] at h
          refine B_X7_step_213  ?_
          exact SC_X7_step_218 hd h
      · rw [if_neg (fun z => absurd (hc.symm.trans z) (by decide)), if_neg (fun z => absurd (hc.symm.trans z) (by decide)), if_neg (fun z => absurd (hc.symm.trans z) (by decide)), if_neg (fun z => absurd (hc.symm.trans z) (by decide)), if_neg (fun z => absurd (hc.symm.trans z) (by decide)), if_neg (fun z => absurd (hc.symm.trans z) (by decide)), if_neg (fun z => absurd (hc.symm.trans z) (by decide)), if_pos hc] at h
        exact SC_X7_step_224 hd h
      · rw [if_neg (fun z => absurd (hc.symm.trans z) (by decide)), if_neg (fun z => absurd (hc.symm.trans z) (by decide)), if_neg (fun z => absurd (hc.symm.trans z) (by decide)), if_neg (fun z => absurd (hc.symm.trans z) (by decide)), if_neg (fun z => absurd (hc.symm.trans z) (by decide)), if_neg (fun z => absurd (hc.symm.trans z) (by decide)), if_neg (fun z => absurd (hc.symm.trans z) (by decide)), if_neg (fun z => absurd (hc.symm.trans z) (by decide)), if_pos hc] at h
        exact SC_X7_step_237 hd h
      · rw [if_neg (fun z => absurd (hc.symm.trans z) (by decide)), if_neg (fun z => absurd (hc.symm.trans z) (by decide)), if_neg (fun z => absurd (hc.symm.trans z) (by decide)), if_neg (fun z => absurd (hc.symm.trans z) (by decide)), if_neg (fun z => absurd (hc.symm.trans z) (by decide)), if_neg (fun z => absurd (hc.symm.trans z) (by decide)), if_neg (fun z => absurd (hc.symm.trans z) (by decide)), if_neg (fun z => absurd (hc.symm.trans z) (by decide)), if_neg (fun z => absurd (hc.symm.trans z) (by decide)), if_pos hc] at h
        exact SC_X7_step_224 hd h
      · rw [if_neg n0, if_neg n1, if_neg n2, if_neg n3, if_neg n4, if_neg n5, if_neg n6, if_neg n7, if_neg n8, if_neg n9] at h
        exact SC_X7_step_237 hd h
    · rw [if_pos hc] at h
      obtain ⟨q7, hq, h⟩ := sw_bnd h
      refine B_X7_step_47  (FC_X7_push (Nat.le_refl _) hq) (Nat.lt_of_lt_of_le (by decide) hd) (fun s hvs => ?_)
      subst hvs
      cases h
      exact B_X7_step_55  ⟨rfl, rfl⟩
  · rw [if_neg hc] at h
    refine B_X7_step_7  (fun hc => ?_) (fun hc => ?_)
    · rw [if_pos hc] at h
      obtain ⟨o8, h⟩ := sw_ifs h
      refine B_X7_step_20 (sw_inb_sp o8) ?_
      exact SC_X7_step_31 hd h
    · rw [if_neg hc] at h
      refine B_X7_step_15  ?_
      exact SC_X7_step_31 hd h
/-! StrayWool$State.begin(LStrayWool$Upland;)V -/
noncomputable def S_X8_begin_38 (c38 : sw_St → Nat → Nat → Int32 → Option (Unit × sw_St)) (σ : sw_St) (o0 : Nat) (o1 : Nat) (x2 : Int32) : Option (Unit × sw_St) :=
  if sw_isO sw_gX o1 9 = true then (if (σ.1 o1 3) ≤ x2 then (some ((), σ)) else (if sw_isO sw_gX o0 8 = true then (if sw_isO sw_gX o1 9 = true then (if sw_isA sw_gX (o1 + 7) 0 = true then (if sw_inb x2 (sw_ln sw_gX (o1 + 7)) = true then (if sw_isA sw_gX (o0 + 1) 0 = true then (if sw_inb x2 (sw_ln sw_gX (o0 + 1)) = true then (if sw_isO sw_gX o0 8 = true then (if sw_isA sw_gX (o0 + 2) 0 = true then (if sw_inb x2 (sw_ln sw_gX (o0 + 2)) = true then (if sw_isO sw_gX o0 8 = true then (if sw_isA sw_gX (o0 + 3) 0 = true then (if sw_inb x2 (sw_ln sw_gX (o0 + 3)) = true then (if sw_isO sw_gX o0 8 = true then (if sw_isA sw_gX (o0 + 4) 0 = true then (if sw_inb x2 (sw_ln sw_gX (o0 + 4)) = true then (if sw_isO sw_gX o0 8 = true then (if sw_isO sw_gX o1 9 = true then (if sw_isA sw_gX (o1 + 8) 0 = true then (if sw_inb x2 (sw_ln sw_gX (o1 + 8)) = true then (if sw_isA sw_gX (o0 + 5) 0 = true then (if sw_inb x2 (sw_ln sw_gX (o0 + 5)) = true then (if sw_isO sw_gX o0 8 = true then (if sw_isO sw_gX o0 8 = true then (if sw_isA sw_gX (o0 + 1) 0 = true then (if sw_inb x2 (sw_ln sw_gX (o0 + 1)) = true then (if sw_isA sw_gX (o0 + 6) 0 = true then (if sw_inb ((x2 * 8) + ((sw_uI (sw_uI (sw_uI (sw_uI (sw_uI σ (o0 + 1) x2.toNatClampNeg (σ.1 (o1 + 7) x2.toNatClampNeg)) (o0 + 2) x2.toNatClampNeg 0) (o0 + 3) x2.toNatClampNeg 0) (o0 + 4) x2.toNatClampNeg 0) (o0 + 5) x2.toNatClampNeg ((sw_uI (sw_uI (sw_uI (sw_uI σ (o0 + 1) x2.toNatClampNeg (σ.1 (o1 + 7) x2.toNatClampNeg)) (o0 + 2) x2.toNatClampNeg 0) (o0 + 3) x2.toNatClampNeg 0) (o0 + 4) x2.toNatClampNeg 0).1 (o1 + 8) x2.toNatClampNeg)).1 (o0 + 1) x2.toNatClampNeg)) (sw_ln sw_gX (o0 + 6)) = true then (c38 (sw_uI (sw_uI (sw_uI (sw_uI (sw_uI (sw_uI σ (o0 + 1) x2.toNatClampNeg (σ.1 (o1 + 7) x2.toNatClampNeg)) (o0 + 2) x2.toNatClampNeg 0) (o0 + 3) x2.toNatClampNeg 0) (o0 + 4) x2.toNatClampNeg 0) (o0 + 5) x2.toNatClampNeg ((sw_uI (sw_uI (sw_uI (sw_uI σ (o0 + 1) x2.toNatClampNeg (σ.1 (o1 + 7) x2.toNatClampNeg)) (o0 + 2) x2.toNatClampNeg 0) (o0 + 3) x2.toNatClampNeg 0) (o0 + 4) x2.toNatClampNeg 0).1 (o1 + 8) x2.toNatClampNeg)) (o0 + 6) (((x2 * 8) + ((sw_uI (sw_uI (sw_uI (sw_uI (sw_uI σ (o0 + 1) x2.toNatClampNeg (σ.1 (o1 + 7) x2.toNatClampNeg)) (o0 + 2) x2.toNatClampNeg 0) (o0 + 3) x2.toNatClampNeg 0) (o0 + 4) x2.toNatClampNeg 0) (o0 + 5) x2.toNatClampNeg ((sw_uI (sw_uI (sw_uI (sw_uI σ (o0 + 1) x2.toNatClampNeg (σ.1 (o1 + 7) x2.toNatClampNeg)) (o0 + 2) x2.toNatClampNeg 0) (o0 + 3) x2.toNatClampNeg 0) (o0 + 4) x2.toNatClampNeg 0).1 (o1 + 8) x2.toNatClampNeg)).1 (o0 + 1) x2.toNatClampNeg)).toNatClampNeg) 1) o0 o1 (x2 + 1)) else none) else none) else none) else none) else none) else none) else none) else none) else none) else none) else none) else none) else none) else none) else none) else none) else none) else none) else none) else none) else none) else none) else none) else none) else none) else none) else none)) else none
theorem SC_X8_begin_38 {E : sw_E} {d : Nat} (hd : 1 ≤ d) {p : Unit × sw_St} {c38 : sw_St → Nat → Nat → Int32 → Option (Unit × sw_St)} (h38 : ∀ (σ : sw_St) (o0 : Nat) (o1 : Nat) (x2 : Int32), c38 σ o0 o1 x2 = some p → sw_W E sw_gX m_X8_begin d 38 [(0, .ref o0), (1, .ref o1), (2, .int x2)] [] σ (sw_pV p)) {σ : sw_St} {o0 : Nat} {o1 : Nat} {x2 : Int32} (h : S_X8_begin_38 c38 σ o0 o1 x2 = some p) : sw_W E sw_gX m_X8_begin d 38 [(0, .ref o0), (1, .ref o1), (2, .int x2)] [] σ (sw_pV p) := by
  unfold S_X8_begin_38 at h
  obtain ⟨o1, h⟩ := sw_ifs h
  refine B_X8_begin_38 o1 (fun hc => ?_) (fun hc => ?_)
  · rw [if_pos hc] at h
    cases h
    exact B_X8_begin_114  ⟨rfl, rfl⟩
  · rw [if_neg hc] at h
    obtain ⟨o2, h⟩ := sw_ifs h
    obtain ⟨o3, h⟩ := sw_ifs h
    obtain ⟨o4, h⟩ := sw_ifs h
    obtain ⟨o5, h⟩ := sw_ifs h
    obtain ⟨o6, h⟩ := sw_ifs h
    obtain ⟨o7, h⟩ := sw_ifs h
    obtain ⟨o8, h⟩ := sw_ifs h
    obtain ⟨o9, h⟩ := sw_ifs h
    obtain ⟨o10, h⟩ := sw_ifs h
    obtain ⟨o11, h⟩ := sw_ifs h
    obtain ⟨o12, h⟩ := sw_ifs h
    obtain ⟨o13, h⟩ := sw_ifs h
    obtain ⟨o14, h⟩ := sw_ifs h
    obtain ⟨o15, h⟩ := sw_ifs h
    obtain ⟨o16, h⟩ := sw_ifs h
    obtain ⟨o17, h⟩ := sw_ifs h
    obtain ⟨o18, h⟩ := sw_ifs h
    obtain ⟨o19, h⟩ := sw_ifs h
    obtain ⟨o20, h⟩ := sw_ifs h
    obtain ⟨o21, h⟩ := sw_ifs h
    obtain ⟨o22, h⟩ := sw_ifs h
    obtain ⟨o23, h⟩ := sw_ifs h
    obtain ⟨o24, h⟩ := sw_ifs h
    obtain ⟨o25, h⟩ := sw_ifs h
    obtain ⟨o26, h⟩ := sw_ifs h
    obtain ⟨o27, h⟩ := sw_ifs h
    obtain ⟨o28, h⟩ := sw_ifs h
    refine B_X8_begin_46 o2 o3 o4 (sw_inb_sp o5) o6 (sw_inb_sp o7) o8 o9 (sw_inb_sp o10) o11 o12 (sw_inb_sp o13) o14 o15 (sw_inb_sp o16) o17 o18 o19 (sw_inb_sp o20) o21 (sw_inb_sp o22) o23 o24 o25 (sw_inb_sp o26) o27 (sw_inb_sp o28) ?_
    exact h38 _ _ _ _ h
noncomputable def L_X8_begin_38 : Nat → sw_St → Nat → Nat → Int32 → Option (Unit × sw_St)
  | 0, _, _, _, _ => none
  | k + 1, σ, o0, o1, x2 => S_X8_begin_38 (fun σ o0 o1 x2 => L_X8_begin_38 k σ o0 o1 x2) σ o0 o1 x2
theorem LC_X8_begin_38 {E : sw_E} {d : Nat} (hd : 1 ≤ d) {p : Unit × sw_St} : ∀ (k : Nat) (σ : sw_St) (o0 : Nat) (o1 : Nat) (x2 : Int32), L_X8_begin_38 k σ o0 o1 x2 = some p → sw_W E sw_gX m_X8_begin d 38 [(0, .ref o0), (1, .ref o1), (2, .int x2)] [] σ (sw_pV p) := by
  intro k
  induction k with
  | zero => intro σ o0 o1 x2 h; cases h
  | succ k ih => intro σ o0 o1 x2 h; exact SC_X8_begin_38 hd ih h
noncomputable def F_X8_begin (σ : sw_St) (o0 : Nat) (o1 : Nat) : Option (Unit × sw_St) :=
  if sw_isO sw_gX o0 8 = true then (if sw_isO sw_gX o0 8 = true then (if sw_isO sw_gX o1 9 = true then (if sw_isO sw_gX o0 8 = true then (if sw_isO sw_gX o0 8 = true then (if sw_isO sw_gX o0 8 = true then (if sw_isO sw_gX o0 8 = true then ((F_J7_fill_53178 (sw_uI (sw_uI (sw_uI (sw_uI (sw_uI σ o0 0 0) o0 1 0) o0 2 ((sw_uI (sw_uI σ o0 0 0) o0 1 0).1 o1 5)) o0 10 0) o0 11 0) (o0 + 6) 0).bind fun q8 => L_X8_begin_38 sw_fuel q8.2 o0 o1 0) else none) else none) else none) else none) else none) else none) else none
theorem FC_X8_begin {E : sw_E} {d : Nat} (hd : 1 ≤ d) {p : Unit × sw_St} {σ : sw_St} {o0 : Nat} {o1 : Nat} (h : F_X8_begin σ o0 o1 = some p) : sw_KV E sw_gX m_X8_begin d [.ref o0, .ref o1] σ (fun s => s = p.2) := by
  unfold F_X8_begin at h
  refine sw_K.of (by decide +kernel) rfl (Nat.le_of_ble_eq_true rfl) ?_
  show sw_W E sw_gX m_X8_begin d 0 [(0, .ref o0), (1, .ref o1)] [] σ (sw_pV p)
  obtain ⟨o1, h⟩ := sw_ifs h
  obtain ⟨o2, h⟩ := sw_ifs h
  obtain ⟨o3, h⟩ := sw_ifs h
  obtain ⟨o4, h⟩ := sw_ifs h
  obtain ⟨o5, h⟩ := sw_ifs h
  obtain ⟨o6, h⟩ := sw_ifs h
  obtain ⟨o7, h⟩ := sw_ifs h
  obtain ⟨q8, hq, h⟩ := sw_bnd h
  refine B_X8_begin_0 o1 o2 o3 o4 o5 o6 o7 (FC_J7_fill_53178 (Nat.le_refl _) hq) (Nat.lt_of_lt_of_le (by decide) hd) (fun s hvs => ?_)
  subst hvs
  refine B_X8_begin_36  ?_
  exact LC_X8_begin_38 hd _ _ _ _ _ h
/-! StrayWool$Upland.clear()V -/
noncomputable def F_X9_clear (σ : sw_St) (o0 : Nat) : Option (Unit × sw_St) :=
  if sw_isO sw_gX o0 9 = true then (if sw_isO sw_gX o0 9 = true then (if sw_isO sw_gX o0 9 = true then (if sw_isO sw_gX o0 9 = true then (if sw_isO sw_gX o0 9 = true then (if sw_isO sw_gX o0 9 = true then (if sw_isO sw_gX o0 9 = true then (if sw_isO sw_gX o0 9 = true then (if sw_isO sw_gX (o0 + 9) 0 = true then (if sw_isO sw_gX o0 9 = true then (if sw_isO sw_gX (o0 + 9) 0 = true then ((F_X0_emit (sw_uI (sw_uI (sw_uI (sw_uI (sw_uI (sw_uI (sw_uI (sw_uI σ o0 0 0) o0 1 0) o0 2 0) o0 3 0) o0 4 0) o0 5 0) o0 6 0) (o0 + 9) 1 0) (o0 + 9) 10003).bind fun q11 => if sw_isO sw_gX o0 9 = true then (if sw_isO sw_gX (o0 + 9) 0 = true then ((F_X0_emit q11.2 (o0 + 9) 10004).bind fun q14 => if sw_isO sw_gX o0 9 = true then (if sw_isO sw_gX (o0 + 9) 0 = true then ((F_X0_emit q14.2 (o0 + 9) 10011).bind fun q17 => if sw_isO sw_gX o0 9 = true then ((F_X9_setFormula q17.2 o0 0 0 3).bind fun q19 => if sw_isO sw_gX o0 9 = true then (if sw_isO sw_gX (o0 + 9) 0 = true then ((F_X0_emit q19.2 (o0 + 9) 0).bind fun q22 => if sw_isO sw_gX o0 9 = true then ((F_X9_setFormula q22.2 o0 1 3 4).bind fun q24 => if sw_isO sw_gX o0 9 = true then (if sw_isO sw_gX (o0 + 9) 0 = true then ((F_X0_emit q24.2 (o0 + 9) 10001).bind fun q27 => if sw_isO sw_gX o0 9 = true then ((F_X9_setFormula q27.2 o0 2 4 5).bind fun q29 => some ((), q29.2)) else none) else none) else none) else none) else none) else none) else none) else none) else none) else none) else none) else none) else none) else none) else none) else none) else none) else none) else none) else none) else none) else none
theorem FC_X9_clear {E : sw_E} {d : Nat} (hd : 1 ≤ d) {p : Unit × sw_St} {σ : sw_St} {o0 : Nat} (h : F_X9_clear σ o0 = some p) : sw_KV E sw_gX m_X9_clear d [.ref o0] σ (fun s => s = p.2) := by
  unfold F_X9_clear at h
  refine sw_K.of (by decide +kernel) rfl (Nat.le_of_ble_eq_true rfl) ?_
  show sw_W E sw_gX m_X9_clear d 0 [(0, .ref o0)] [] σ (sw_pV p)
  obtain ⟨o1, h⟩ := sw_ifs h
  obtain ⟨o2, h⟩ := sw_ifs h
  obtain ⟨o3, h⟩ := sw_ifs h
  obtain ⟨o4, h⟩ := sw_ifs h
  obtain ⟨o5, h⟩ := sw_ifs h
  obtain ⟨o6, h⟩ := sw_ifs h
  obtain ⟨o7, h⟩ := sw_ifs h
  obtain ⟨o8, h⟩ := sw_ifs h
  obtain ⟨o9, h⟩ := sw_ifs h
  obtain ⟨o10, h⟩ := sw_ifs h
  obtain ⟨o12, h⟩ := sw_ifs h
  obtain ⟨q11, hq, h⟩ := sw_bnd h
  refine B_X9_clear_0 o1 o2 o3 o4 o5 o6 o7 o8 o9 o10 (FC_X0_emit (Nat.le_refl _) hq) (Nat.lt_of_lt_of_le (by decide) hd) (fun s hvs => ?_) o12
  subst hvs
  obtain ⟨o13, h⟩ := sw_ifs h
  obtain ⟨o15, h⟩ := sw_ifs h
  obtain ⟨q14, hq, h⟩ := sw_bnd h
  refine B_X9_clear_53 o13 (FC_X0_emit (Nat.le_refl _) hq) (Nat.lt_of_lt_of_le (by decide) hd) (fun s hvs => ?_) o15
  subst hvs
  obtain ⟨o16, h⟩ := sw_ifs h
  obtain ⟨o18, h⟩ := sw_ifs h
  obtain ⟨q17, hq, h⟩ := sw_bnd h
  refine B_X9_clear_63 o16 (FC_X0_emit (Nat.le_refl _) hq) (Nat.lt_of_lt_of_le (by decide) hd) (fun s hvs => ?_) o18
  subst hvs
  obtain ⟨o20, h⟩ := sw_ifs h
  obtain ⟨q19, hq, h⟩ := sw_bnd h
  refine B_X9_clear_73  (FC_X9_setFormula (Nat.le_refl _) hq) (Nat.lt_of_lt_of_le (by decide) hd) (fun s hvs => ?_) o20
  subst hvs
  obtain ⟨o21, h⟩ := sw_ifs h
  obtain ⟨o23, h⟩ := sw_ifs h
  obtain ⟨q22, hq, h⟩ := sw_bnd h
  refine B_X9_clear_80 o21 (FC_X0_emit (Nat.le_refl _) hq) (Nat.lt_of_lt_of_le (by decide) hd) (fun s hvs => ?_) o23
  subst hvs
  obtain ⟨o25, h⟩ := sw_ifs h
  obtain ⟨q24, hq, h⟩ := sw_bnd h
  refine B_X9_clear_88  (FC_X9_setFormula (Nat.le_refl _) hq) (Nat.lt_of_lt_of_le (by decide) hd) (fun s hvs => ?_) o25
  subst hvs
  obtain ⟨o26, h⟩ := sw_ifs h
  obtain ⟨o28, h⟩ := sw_ifs h
  obtain ⟨q27, hq, h⟩ := sw_bnd h
  refine B_X9_clear_95 o26 (FC_X0_emit (Nat.le_refl _) hq) (Nat.lt_of_lt_of_le (by decide) hd) (fun s hvs => ?_) o28
  subst hvs
  obtain ⟨o30, h⟩ := sw_ifs h
  obtain ⟨q29, hq, h⟩ := sw_bnd h
  refine B_X9_clear_105  (FC_X9_setFormula (Nat.le_refl _) hq) (Nat.lt_of_lt_of_le (by decide) hd) (fun s hvs => ?_) o30
  subst hvs
  cases h
  exact B_X9_clear_112  ⟨rfl, rfl⟩
/-! StrayWool.feed(IIIII)I -/
noncomputable def F_X10_feed (σ : sw_St) (x1 : Int32) (x2 : Int32) (x3 : Int32) (x4 : Int32) (x5 : Int32) : Option (Int32 × sw_St) :=
  if ((σ.1 0 1) + 20) ≤ 1600 then ((F_X10_putBytes σ x1).bind fun q1 => (F_X10_putBytes q1.2 x2).bind fun q2 => (F_X10_putBytes q2.2 x3).bind fun q3 => (F_X10_putBytes q3.2 x4).bind fun q4 => (F_X10_putBytes q4.2 x5).bind fun q5 => some (q5.2.1 0 1, q5.2)) else ((F_X10_refuse σ 0).bind fun q6 => some (q6.1, q6.2))
theorem FC_X10_feed {E : sw_E} {d : Nat} (hd : 1 ≤ d) {p : Int32 × sw_St} {σ : sw_St} {x1 : Int32} {x2 : Int32} {x3 : Int32} {x4 : Int32} {x5 : Int32} (h : F_X10_feed σ x1 x2 x3 x4 x5 = some p) : sw_KI E sw_gX m_X10_feed d [.ref 0, .int x1, .int x2, .int x3, .int x4, .int x5] σ (fun v s => v = p.1 ∧ s = p.2) := by
  unfold F_X10_feed at h
  refine sw_K.of (by decide +kernel) rfl (Nat.le_of_ble_eq_true rfl) ?_
  show sw_W E sw_gX m_X10_feed d 0 [(0, .ref 0), (1, .int x1), (2, .int x2), (3, .int x3), (4, .int x4), (5, .int x5)] [] σ (sw_pI p)
  refine B_X10_feed_0  (fun hc => ?_) (fun hc => ?_)
  · rw [if_pos hc] at h
    obtain ⟨q1, hq, h⟩ := sw_bnd h
    refine B_X10_feed_19  (FC_X10_putBytes (Nat.le_refl _) hq) (Nat.lt_of_lt_of_le (by decide) hd) (fun s hvs => ?_)
    subst hvs
    obtain ⟨q2, hq, h⟩ := sw_bnd h
    refine B_X10_feed_24  (FC_X10_putBytes (Nat.le_refl _) hq) (Nat.lt_of_lt_of_le (by decide) hd) (fun s hvs => ?_)
    subst hvs
    obtain ⟨q3, hq, h⟩ := sw_bnd h
    refine B_X10_feed_29  (FC_X10_putBytes (Nat.le_refl _) hq) (Nat.lt_of_lt_of_le (by decide) hd) (fun s hvs => ?_)
    subst hvs
    obtain ⟨q4, hq, h⟩ := sw_bnd h
    refine B_X10_feed_34  (FC_X10_putBytes (Nat.le_refl _) hq) (Nat.lt_of_lt_of_le (by decide) hd) (fun s hvs => ?_)
    subst hvs
    obtain ⟨q5, hq, h⟩ := sw_bnd h
    refine B_X10_feed_40  (FC_X10_putBytes (Nat.le_refl _) hq) (Nat.lt_of_lt_of_le (by decide) hd) (fun s hvs => ?_)
    subst hvs
    cases h
    exact B_X10_feed_46  ⟨_, rfl, rfl, rfl⟩
  · rw [if_neg hc] at h
    obtain ⟨q6, hq, h⟩ := sw_bnd h
    refine B_X10_feed_13  (FC_X10_refuse (Nat.le_refl _) hq) (Nat.lt_of_lt_of_le (by decide) hd) (fun v s hvs => ?_)
    obtain ⟨hv1, hv2⟩ := hvs; subst hv1; subst hv2
    cases h
    exact B_X10_feed_18  ⟨_, rfl, rfl, rfl⟩
/-! StrayWool.end(I)Z -/
noncomputable def S_X10_end_12 (σ : sw_St) : Option (Int32 × sw_St) :=
  (F_X10_refuse σ 0).bind fun q1 => some (0, q1.2)
theorem SC_X10_end_12 {E : sw_E} {d : Nat} (hd : 1 ≤ d) {p : Int32 × sw_St} {σ : sw_St} (h : S_X10_end_12 σ  = some p) : sw_W E sw_gX m_X10_end d 12 [(0, .ref 0)] [] σ (sw_pI p) := by
  unfold S_X10_end_12 at h
  obtain ⟨q1, hq, h⟩ := sw_bnd h
  refine B_X10_end_12  (FC_X10_refuse (Nat.le_refl _) hq) (Nat.lt_of_lt_of_le (by decide) hd) (fun v s hvs => ?_)
  obtain ⟨hv1, hv2⟩ := hvs; subst hv1; subst hv2
  cases h
  exact B_X10_end_17  ⟨_, rfl, rfl, rfl⟩
noncomputable def F_X10_end (σ : sw_St) (x1 : Int32) : Option (Int32 × sw_St) :=
  if x1 < 0 then (S_X10_end_12 σ ) else (if x1 ≤ (σ.1 0 1) then (some (1, (sw_uI σ 0 1 x1))) else (S_X10_end_12 σ ))
theorem FC_X10_end {E : sw_E} {d : Nat} (hd : 1 ≤ d) {p : Int32 × sw_St} {σ : sw_St} {x1 : Int32} (h : F_X10_end σ x1 = some p) : sw_KI E sw_gX m_X10_end d [.ref 0, .int x1] σ (fun v s => v = p.1 ∧ s = p.2) := by
  unfold F_X10_end at h
  refine sw_K.of (by decide +kernel) rfl (Nat.le_of_ble_eq_true rfl) ?_
  show sw_W E sw_gX m_X10_end d 0 [(0, .ref 0), (1, .int x1)] [] σ (sw_pI p)
  refine B_X10_end_0  (fun hc => ?_) (fun hc => ?_)
  · rw [if_pos hc] at h
    exact SC_X10_end_12 hd h
  · rw [if_neg hc] at h
    refine B_X10_end_4  (fun hc => ?_) (fun hc => ?_)
    · rw [if_pos hc] at h
      cases h
      exact B_X10_end_20  ⟨_, rfl, rfl, rfl⟩
    · rw [if_neg hc] at h
      exact SC_X10_end_12 hd h
/-! StrayWool.has(I)I -/
noncomputable def F_X10_has (σ : sw_St) (x1 : Int32) : Option (Int32 × sw_St) :=
  if x1 = 0 then ((σ.2.2 33 0).bind fun w1 => (if sw_isO sw_gX w1 9 = true then (some (σ.1 w1 1, σ)) else none)) else if x1 = 1 then ((σ.2.2 33 0).bind fun w3 => (if sw_isO sw_gX w3 9 = true then (some (σ.1 w3 2, σ)) else none)) else if x1 = 2 then ((σ.2.2 33 0).bind fun w5 => (if sw_isO sw_gX w5 9 = true then (some (σ.1 w5 3, σ)) else none)) else if x1 = 3 then (some (σ.1 38 0, σ)) else if x1 = 4 then ((F_J6_bitCount_0f7a4 σ (σ.1 38 2)).bind fun q7 => some (q7.1, q7.2)) else if x1 = 5 then (some (σ.1 38 1, σ)) else if x1 = 6 then ((σ.2.2 33 0).bind fun w8 => (if sw_isO sw_gX w8 9 = true then ((F_X8_allMiles σ 38 (σ.1 w8 3)).bind fun q10 => some (q10.1, q10.2)) else none)) else if x1 = 7 then (some (σ.1 38 11, σ)) else if x1 = 8 then (some (σ.1 54 4, σ)) else if x1 = 9 then (some (σ.1 62 2, σ)) else (some ((-1), σ))
theorem FC_X10_has {E : sw_E} {d : Nat} (hd : 1 ≤ d) {p : Int32 × sw_St} {σ : sw_St} {x1 : Int32} (h : F_X10_has σ x1 = some p) : sw_KI E sw_gX m_X10_has d [.ref 0, .int x1] σ (fun v s => v = p.1 ∧ s = p.2) := by
  unfold F_X10_has at h
  refine sw_K.of (by decide +kernel) rfl (Nat.le_of_ble_eq_true rfl) ?_
  show sw_W E sw_gX m_X10_has d 0 [(0, .ref 0), (1, .int x1)] [] σ (sw_pI p)
  refine B_X10_has_0  (fun hc => ?_) (fun hc => ?_) (fun hc => ?_) (fun hc => ?_) (fun hc => ?_) (fun hc => ?_) (fun hc => ?_) (fun hc => ?_) (fun hc => ?_) (fun hc => ?_) (fun n0 n1 n2 n3 n4 n5 n6 n7 n8 n9 => ?_)
  · rw [if_pos hc] at h
    obtain ⟨w1, ow1, h⟩ := sw_bnd h
    obtain ⟨o2, h⟩ := sw_ifs h
    cases h
    exact B_X10_has_56 ow1 o2 ⟨_, rfl, rfl, rfl⟩
  · rw [if_neg (fun z => absurd (hc.symm.trans z) (by decide)), if_pos hc] at h
    obtain ⟨w3, ow3, h⟩ := sw_bnd h
    obtain ⟨o4, h⟩ := sw_ifs h
    cases h
    exact B_X10_has_67 ow3 o4 ⟨_, rfl, rfl, rfl⟩
  · rw [if_neg (fun z => absurd (hc.symm.trans z) (by decide)), if_neg (fun z => absurd (hc.symm.trans z) (by decide)), if_pos hc] at h
    obtain ⟨w5, ow5, h⟩ := sw_bnd h
    obtain ⟨o6, h⟩ := sw_ifs h
    cases h
    exact B_X10_has_78 ow5 o6 ⟨_, rfl, rfl, rfl⟩
  · rw [if_neg (fun z => absurd (hc.symm.trans z) (by decide)), if_neg (fun z => absurd (hc.symm.trans z) (by decide)), if_neg (fun z => absurd (hc.symm.trans z) (by decide)), if_pos hc] at h
    cases h
    exact B_X10_has_89  ⟨_, rfl, rfl, rfl⟩
  · rw [if_neg (fun z => absurd (hc.symm.trans z) (by decide)), if_neg (fun z => absurd (hc.symm.trans z) (by decide)), if_neg (fun z => absurd (hc.symm.trans z) (by decide)), if_neg (fun z => absurd (hc.symm.trans z) (by decide)), if_pos hc] at h
    obtain ⟨q7, hq, h⟩ := sw_bnd h
    refine B_X10_has_97  (FC_J6_bitCount_0f7a4 (Nat.le_refl _) hq) (Nat.lt_of_lt_of_le (by decide) hd) (fun v s hvs => ?_)
    obtain ⟨hv1, hv2⟩ := hvs; subst hv1; subst hv2
    cases h
    exact B_X10_has_107  ⟨_, rfl, rfl, rfl⟩
  · rw [if_neg (fun z => absurd (hc.symm.trans z) (by decide)), if_neg (fun z => absurd (hc.symm.trans z) (by decide)), if_neg (fun z => absurd (hc.symm.trans z) (by decide)), if_neg (fun z => absurd (hc.symm.trans z) (by decide)), if_neg (fun z => absurd (hc.symm.trans z) (by decide)), if_pos hc] at h
    cases h
    exact B_X10_has_108  ⟨_, rfl, rfl, rfl⟩
  · rw [if_neg (fun z => absurd (hc.symm.trans z) (by decide)), if_neg (fun z => absurd (hc.symm.trans z) (by decide)), if_neg (fun z => absurd (hc.symm.trans z) (by decide)), if_neg (fun z => absurd (hc.symm.trans z) (by decide)), if_neg (fun z => absurd (hc.symm.trans z) (by decide)), if_neg (fun z => absurd (hc.symm.trans z) (by decide)), if_pos hc] at h
    obtain ⟨w8, ow8, h⟩ := sw_bnd h
    obtain ⟨o9, h⟩ := sw_ifs h
    obtain ⟨q10, hq, h⟩ := sw_bnd h
    refine B_X10_has_116 ow8 o9 (FC_X8_allMiles (Nat.le_refl _) hq) (Nat.lt_of_lt_of_le (by decide) hd) (fun v s hvs => ?_)
    obtain ⟨hv1, hv2⟩ := hvs; subst hv1; subst hv2
    cases h
    exact B_X10_has_133  ⟨_, rfl, rfl, rfl⟩
  · rw [if_neg (fun z => absurd (hc.symm.trans z) (by decide)), if_neg (fun z => absurd (hc.symm.trans z) (by decide)), if_neg (fun z => absurd (hc.symm.trans z) (by decide)), if_neg (fun z => absurd (hc.symm.trans z) (by decide)), if_neg (fun z => absurd (hc.symm.trans z) (by decide)), if_neg (fun z => absurd (hc.symm.trans z) (by decide)), if_neg (fun z => absurd (hc.symm.trans z) (by decide)), if_pos hc] at h
    cases h
    exact B_X10_has_134  ⟨_, rfl, rfl, rfl⟩
  · rw [if_neg (fun z => absurd (hc.symm.trans z) (by decide)), if_neg (fun z => absurd (hc.symm.trans z) (by decide)), if_neg (fun z => absurd (hc.symm.trans z) (by decide)), if_neg (fun z => absurd (hc.symm.trans z) (by decide)), if_neg (fun z => absurd (hc.symm.trans z) (by decide)), if_neg (fun z => absurd (hc.symm.trans z) (by decide)), if_neg (fun z => absurd (hc.symm.trans z) (by decide)), if_neg (fun z => absurd (hc.symm.trans z) (by decide)), if_pos hc] at h
    cases h
    exact B_X10_has_142  ⟨_, rfl, rfl, rfl⟩
  · rw [if_neg (fun z => absurd (hc.symm.trans z) (by decide)), if_neg (fun z => absurd (hc.symm.trans z) (by decide)), if_neg (fun z => absurd (hc.symm.trans z) (by decide)), if_neg (fun z => absurd (hc.symm.trans z) (by decide)), if_neg (fun z => absurd (hc.symm.trans z) (by decide)), if_neg (fun z => absurd (hc.symm.trans z) (by decide)), if_neg (fun z => absurd (hc.symm.trans z) (by decide)), if_neg (fun z => absurd (hc.symm.trans z) (by decide)), if_neg (fun z => absurd (hc.symm.trans z) (by decide)), if_pos hc] at h
    cases h
    exact B_X10_has_150  ⟨_, rfl, rfl, rfl⟩
  · rw [if_neg n0, if_neg n1, if_neg n2, if_neg n3, if_neg n4, if_neg n5, if_neg n6, if_neg n7, if_neg n8, if_neg n9] at h
    cases h
    exact B_X10_has_158  ⟨_, rfl, rfl, rfl⟩
/-! StrayWool.letter(III)I -/
noncomputable def S_X10_letter_10 (σ : sw_St) : Option (Int32 × sw_St) :=
  some ((-1), σ)
theorem SC_X10_letter_10 {E : sw_E} {d : Nat} (hd : 1 ≤ d) {p : Int32 × sw_St} {σ : sw_St} (h : S_X10_letter_10 σ  = some p) : sw_W E sw_gX m_X10_letter d 10 [] [] σ (sw_pI p) := by
  unfold S_X10_letter_10 at h
  cases h
  exact B_X10_letter_10  ⟨_, rfl, rfl, rfl⟩
noncomputable def S_X10_letter_71 (σ : sw_St) : Option (Int32 × sw_St) :=
  some ((-1), σ)
theorem SC_X10_letter_71 {E : sw_E} {d : Nat} (hd : 1 ≤ d) {p : Int32 × sw_St} {σ : sw_St} (h : S_X10_letter_71 σ  = some p) : sw_W E sw_gX m_X10_letter d 71 [] [] σ (sw_pI p) := by
  unfold S_X10_letter_71 at h
  cases h
  exact B_X10_letter_71  ⟨_, rfl, rfl, rfl⟩
noncomputable def S_X10_letter_73 (σ : sw_St) (x3 : Int32) (x4 : Int32) : Option (Int32 × sw_St) :=
  some ((x4 >>> ((5 * (5 - x3)) &&& 31)) &&& 31, σ)
theorem SC_X10_letter_73 {E : sw_E} {d : Nat} (hd : 1 ≤ d) {p : Int32 × sw_St} {σ : sw_St} {x3 : Int32} {x4 : Int32} (h : S_X10_letter_73 σ x3 x4 = some p) : sw_W E sw_gX m_X10_letter d 73 [(3, .int x3), (4, .int x4)] [] σ (sw_pI p) := by
  unfold S_X10_letter_73 at h
  cases h
  exact B_X10_letter_73  ⟨_, rfl, rfl, rfl⟩
noncomputable def S_X10_letter_41 (σ : sw_St) (x1 : Int32) (x2 : Int32) (x3 : Int32) : Option (Int32 × sw_St) :=
  if x1 = 1 then ((F_X10_isSheep σ x2).bind fun q1 => if q1.1 = 0 then (S_X10_letter_71 q1.2 ) else ((q1.2.2.2 33 0).bind fun w2 => (if sw_isO sw_gX w2 9 = true then (if sw_isA sw_gX (w2 + 6) 0 = true then (if sw_inb x2 (sw_ln sw_gX (w2 + 6)) = true then (S_X10_letter_73 q1.2 x3 (q1.2.1 (w2 + 6) x2.toNatClampNeg)) else none) else none) else none))) else (S_X10_letter_71 σ )
theorem SC_X10_letter_41 {E : sw_E} {d : Nat} (hd : 1 ≤ d) {p : Int32 × sw_St} {σ : sw_St} {x1 : Int32} {x2 : Int32} {x3 : Int32} (h : S_X10_letter_41 σ x1 x2 x3 = some p) : sw_W E sw_gX m_X10_letter d 41 [(0, .ref 0), (1, .int x1), (2, .int x2), (3, .int x3)] [] σ (sw_pI p) := by
  unfold S_X10_letter_41 at h
  refine B_X10_letter_41  (fun hc => ?_) (fun hc => ?_)
  · rw [if_neg hc] at h
    exact SC_X10_letter_71 hd h
  · rw [if_pos hc] at h
    obtain ⟨q1, hq, h⟩ := sw_bnd h
    refine B_X10_letter_46  (FC_X10_isSheep (Nat.le_refl _) hq) (Nat.lt_of_lt_of_le (by decide) hd) (fun v s hvs => ?_)
    obtain ⟨hv1, hv2⟩ := hvs; subst hv1; subst hv2
    refine B_X10_letter_51  (fun hc => ?_) (fun hc => ?_)
    · rw [if_pos hc] at h
      exact SC_X10_letter_71 hd h
    · rw [if_neg hc] at h
      obtain ⟨w2, ow2, h⟩ := sw_bnd h
      obtain ⟨o3, h⟩ := sw_ifs h
      obtain ⟨o4, h⟩ := sw_ifs h
      obtain ⟨o5, h⟩ := sw_ifs h
      refine B_X10_letter_54 ow2 o3 o4 (sw_inb_sp o5) ?_
      exact SC_X10_letter_73 hd h
noncomputable def F_X10_letter (σ : sw_St) (x1 : Int32) (x2 : Int32) (x3 : Int32) : Option (Int32 × sw_St) :=
  if x3 < 0 then (S_X10_letter_10 σ ) else (if x3 < 6 then (if x1 = 0 then ((F_X10_isField σ x2).bind fun q1 => if q1.1 = 0 then (S_X10_letter_41 q1.2 x1 x2 x3) else ((q1.2.2.2 33 0).bind fun w2 => (if sw_isO sw_gX w2 9 = true then (if sw_isA sw_gX (w2 + 1) 0 = true then (if sw_inb x2 (sw_ln sw_gX (w2 + 1)) = true then (S_X10_letter_73 q1.2 x3 (q1.2.1 (w2 + 1) x2.toNatClampNeg)) else none) else none) else none))) else (S_X10_letter_41 σ x1 x2 x3)) else (S_X10_letter_10 σ ))
theorem FC_X10_letter {E : sw_E} {d : Nat} (hd : 1 ≤ d) {p : Int32 × sw_St} {σ : sw_St} {x1 : Int32} {x2 : Int32} {x3 : Int32} (h : F_X10_letter σ x1 x2 x3 = some p) : sw_KI E sw_gX m_X10_letter d [.ref 0, .int x1, .int x2, .int x3] σ (fun v s => v = p.1 ∧ s = p.2) := by
  unfold F_X10_letter at h
  refine sw_K.of (by decide +kernel) rfl (Nat.le_of_ble_eq_true rfl) ?_
  show sw_W E sw_gX m_X10_letter d 0 [(0, .ref 0), (1, .int x1), (2, .int x2), (3, .int x3)] [] σ (sw_pI p)
  refine B_X10_letter_0  (fun hc => ?_) (fun hc => ?_)
  · rw [if_pos hc] at h
    exact SC_X10_letter_10 hd h
  · rw [if_neg hc] at h
    refine B_X10_letter_4  (fun hc => ?_) (fun hc => ?_)
    · rw [if_pos hc] at h
      refine B_X10_letter_12  (fun hc => ?_) (fun hc => ?_)
      · rw [if_neg hc] at h
        exact SC_X10_letter_41 hd h
      · rw [if_pos hc] at h
        obtain ⟨q1, hq, h⟩ := sw_bnd h
        refine B_X10_letter_16  (FC_X10_isField (Nat.le_refl _) hq) (Nat.lt_of_lt_of_le (by decide) hd) (fun v s hvs => ?_)
        obtain ⟨hv1, hv2⟩ := hvs; subst hv1; subst hv2
        refine B_X10_letter_21  (fun hc => ?_) (fun hc => ?_)
        · rw [if_pos hc] at h
          exact SC_X10_letter_41 hd h
        · rw [if_neg hc] at h
          obtain ⟨w2, ow2, h⟩ := sw_bnd h
          obtain ⟨o3, h⟩ := sw_ifs h
          obtain ⟨o4, h⟩ := sw_ifs h
          obtain ⟨o5, h⟩ := sw_ifs h
          refine B_X10_letter_24 ow2 o3 o4 (sw_inb_sp o5) ?_
          exact SC_X10_letter_73 hd h
    · rw [if_neg hc] at h
      exact SC_X10_letter_10 hd h
/-! StrayWool.lure(I)I -/
noncomputable def S_X10_lure_24 (σ : sw_St) (sx0 : Int32) : Option (Int32 × sw_St) :=
  some (sx0, σ)
theorem SC_X10_lure_24 {E : sw_E} {d : Nat} (hd : 1 ≤ d) {p : Int32 × sw_St} {σ : sw_St} {sx0 : Int32} (h : S_X10_lure_24 σ sx0 = some p) : sw_W E sw_gX m_X10_lure d 24 [] [.int sx0] σ (sw_pI p) := by
  unfold S_X10_lure_24 at h
  cases h
  exact B_X10_lure_24  ⟨_, rfl, rfl, rfl⟩
noncomputable def F_X10_lure (σ : sw_St) (x1 : Int32) : Option (Int32 × sw_St) :=
  (F_X10_isField σ x1).bind fun q1 => if q1.1 = 0 then (S_X10_lure_24 q1.2 (-1)) else ((q1.2.2.2 33 0).bind fun w2 => (if sw_isO sw_gX w2 9 = true then (if sw_isA sw_gX (w2 + 2) 0 = true then (if sw_inb x1 (sw_ln sw_gX (w2 + 2)) = true then (S_X10_lure_24 q1.2 (q1.2.1 (w2 + 2) x1.toNatClampNeg)) else none) else none) else none))
theorem FC_X10_lure {E : sw_E} {d : Nat} (hd : 1 ≤ d) {p : Int32 × sw_St} {σ : sw_St} {x1 : Int32} (h : F_X10_lure σ x1 = some p) : sw_KI E sw_gX m_X10_lure d [.ref 0, .int x1] σ (fun v s => v = p.1 ∧ s = p.2) := by
  unfold F_X10_lure at h
  refine sw_K.of (by decide +kernel) rfl (Nat.le_of_ble_eq_true rfl) ?_
  show sw_W E sw_gX m_X10_lure d 0 [(0, .ref 0), (1, .int x1)] [] σ (sw_pI p)
  obtain ⟨q1, hq, h⟩ := sw_bnd h
  refine B_X10_lure_0  (FC_X10_isField (Nat.le_refl _) hq) (Nat.lt_of_lt_of_le (by decide) hd) (fun v s hvs => ?_)
  obtain ⟨hv1, hv2⟩ := hvs; subst hv1; subst hv2
  refine B_X10_lure_5  (fun hc => ?_) (fun hc => ?_)
  · rw [if_pos hc] at h
    refine B_X10_lure_23  ?_
    exact SC_X10_lure_24 hd h
  · rw [if_neg hc] at h
    obtain ⟨w2, ow2, h⟩ := sw_bnd h
    obtain ⟨o3, h⟩ := sw_ifs h
    obtain ⟨o4, h⟩ := sw_ifs h
    obtain ⟨o5, h⟩ := sw_ifs h
    refine B_X10_lure_8 ow2 o3 o4 (sw_inb_sp o5) ?_
    exact SC_X10_lure_24 hd h
/-! StrayWool.gap(II)I -/
noncomputable def F_X10_gap (σ : sw_St) (x1 : Int32) (x2 : Int32) : Option (Int32 × sw_St) :=
  (F_X10_isGap σ x1).bind fun q1 => if q1.1 = 0 then (some ((-1), q1.2)) else (if x2 = 0 then ((q1.2.2.2 33 0).bind fun w2 => (if sw_isO sw_gX w2 9 = true then (if sw_isA sw_gX (w2 + 3) 0 = true then (if sw_inb x1 (sw_ln sw_gX (w2 + 3)) = true then (some (q1.2.1 (w2 + 3) x1.toNatClampNeg, q1.2)) else none) else none) else none)) else if x2 = 1 then ((q1.2.2.2 33 0).bind fun w6 => (if sw_isO sw_gX w6 9 = true then (if sw_isA sw_gX (w6 + 4) 0 = true then (if sw_inb x1 (sw_ln sw_gX (w6 + 4)) = true then (some (q1.2.1 (w6 + 4) x1.toNatClampNeg, q1.2)) else none) else none) else none)) else if x2 = 2 then ((q1.2.2.2 33 0).bind fun w10 => (if sw_isO sw_gX w10 9 = true then (if sw_isA sw_gX (w10 + 5) 0 = true then (if sw_inb x1 (sw_ln sw_gX (w10 + 5)) = true then (some (q1.2.1 (w10 + 5) x1.toNatClampNeg, q1.2)) else none) else none) else none)) else if x2 = 3 then (some (((q1.2.1 38 2) >>> (x1 &&& 31)) &&& 1, q1.2)) else (some ((-1), q1.2)))
theorem FC_X10_gap {E : sw_E} {d : Nat} (hd : 1 ≤ d) {p : Int32 × sw_St} {σ : sw_St} {x1 : Int32} {x2 : Int32} (h : F_X10_gap σ x1 x2 = some p) : sw_KI E sw_gX m_X10_gap d [.ref 0, .int x1, .int x2] σ (fun v s => v = p.1 ∧ s = p.2) := by
  unfold F_X10_gap at h
  refine sw_K.of (by decide +kernel) rfl (Nat.le_of_ble_eq_true rfl) ?_
  show sw_W E sw_gX m_X10_gap d 0 [(0, .ref 0), (1, .int x1), (2, .int x2)] [] σ (sw_pI p)
  obtain ⟨q1, hq, h⟩ := sw_bnd h
  refine B_X10_gap_0  (FC_X10_isGap (Nat.le_refl _) hq) (Nat.lt_of_lt_of_le (by decide) hd) (fun v s hvs => ?_)
  obtain ⟨hv1, hv2⟩ := hvs; subst hv1; subst hv2
  refine B_X10_gap_5  (fun hc => ?_) (fun hc => ?_)
  · rw [if_neg hc] at h
    refine B_X10_gap_10  (fun hc => ?_) (fun hc => ?_) (fun hc => ?_) (fun hc => ?_) (fun n0 n1 n2 n3 => ?_)
    · rw [if_pos hc] at h
      obtain ⟨w2, ow2, h⟩ := sw_bnd h
      obtain ⟨o3, h⟩ := sw_ifs h
      obtain ⟨o4, h⟩ := sw_ifs h
      obtain ⟨o5, h⟩ := sw_ifs h
      cases h
      exact B_X10_gap_40 ow2 o3 o4 (sw_inb_sp o5) ⟨_, rfl, rfl, rfl⟩
    · rw [if_neg (fun z => absurd (hc.symm.trans z) (by decide)), if_pos hc] at h
      obtain ⟨w6, ow6, h⟩ := sw_bnd h
      obtain ⟨o7, h⟩ := sw_ifs h
      obtain ⟨o8, h⟩ := sw_ifs h
      obtain ⟨o9, h⟩ := sw_ifs h
      cases h
      exact B_X10_gap_53 ow6 o7 o8 (sw_inb_sp o9) ⟨_, rfl, rfl, rfl⟩
    · rw [if_neg (fun z => absurd (hc.symm.trans z) (by decide)), if_neg (fun z => absurd (hc.symm.trans z) (by decide)), if_pos hc] at h
      obtain ⟨w10, ow10, h⟩ := sw_bnd h
      obtain ⟨o11, h⟩ := sw_ifs h
      obtain ⟨o12, h⟩ := sw_ifs h
      obtain ⟨o13, h⟩ := sw_ifs h
      cases h
      exact B_X10_gap_66 ow10 o11 o12 (sw_inb_sp o13) ⟨_, rfl, rfl, rfl⟩
    · rw [if_neg (fun z => absurd (hc.symm.trans z) (by decide)), if_neg (fun z => absurd (hc.symm.trans z) (by decide)), if_neg (fun z => absurd (hc.symm.trans z) (by decide)), if_pos hc] at h
      cases h
      exact B_X10_gap_79  ⟨_, rfl, rfl, rfl⟩
    · rw [if_neg n0, if_neg n1, if_neg n2, if_neg n3] at h
      cases h
      exact B_X10_gap_91  ⟨_, rfl, rfl, rfl⟩
  · rw [if_pos hc] at h
    cases h
    exact B_X10_gap_8  ⟨_, rfl, rfl, rfl⟩
/-! StrayWool.sheep(II)I -/
noncomputable def F_X10_sheep (σ : sw_St) (x1 : Int32) (x2 : Int32) : Option (Int32 × sw_St) :=
  (F_X10_isSheep σ x1).bind fun q1 => if q1.1 = 0 then (some ((-1), q1.2)) else (if x2 = 0 then (if sw_inb x1 6 = true then (some (q1.2.1 39 x1.toNatClampNeg, q1.2)) else none) else if x2 = 1 then (if sw_inb x1 6 = true then (some (q1.2.1 43 x1.toNatClampNeg, q1.2)) else none) else if x2 = 2 then (if sw_inb x1 6 = true then (some (q1.2.1 40 x1.toNatClampNeg, q1.2)) else none) else if x2 = 3 then (if sw_inb x1 6 = true then (some (q1.2.1 41 x1.toNatClampNeg, q1.2)) else none) else if x2 = 4 then (if sw_inb x1 6 = true then (some (q1.2.1 42 x1.toNatClampNeg, q1.2)) else none) else if x2 = 5 then ((q1.2.2.2 33 0).bind fun w7 => (if sw_isO sw_gX w7 9 = true then (if sw_isA sw_gX (w7 + 7) 0 = true then (if sw_inb x1 (sw_ln sw_gX (w7 + 7)) = true then (some (q1.2.1 (w7 + 7) x1.toNatClampNeg, q1.2)) else none) else none) else none)) else (some ((-1), q1.2)))
theorem FC_X10_sheep {E : sw_E} {d : Nat} (hd : 1 ≤ d) {p : Int32 × sw_St} {σ : sw_St} {x1 : Int32} {x2 : Int32} (h : F_X10_sheep σ x1 x2 = some p) : sw_KI E sw_gX m_X10_sheep d [.ref 0, .int x1, .int x2] σ (fun v s => v = p.1 ∧ s = p.2) := by
  unfold F_X10_sheep at h
  refine sw_K.of (by decide +kernel) rfl (Nat.le_of_ble_eq_true rfl) ?_
  show sw_W E sw_gX m_X10_sheep d 0 [(0, .ref 0), (1, .int x1), (2, .int x2)] [] σ (sw_pI p)
  obtain ⟨q1, hq, h⟩ := sw_bnd h
  refine B_X10_sheep_0  (FC_X10_isSheep (Nat.le_refl _) hq) (Nat.lt_of_lt_of_le (by decide) hd) (fun v s hvs => ?_)
  obtain ⟨hv1, hv2⟩ := hvs; subst hv1; subst hv2
  refine B_X10_sheep_5  (fun hc => ?_) (fun hc => ?_)
  · rw [if_neg hc] at h
    refine B_X10_sheep_10  (fun hc => ?_) (fun hc => ?_) (fun hc => ?_) (fun hc => ?_) (fun hc => ?_) (fun hc => ?_) (fun n0 n1 n2 n3 n4 n5 => ?_)
    · rw [if_pos hc] at h
      obtain ⟨o2, h⟩ := sw_ifs h
      cases h
      exact B_X10_sheep_48 (sw_inb_sp o2) ⟨_, rfl, rfl, rfl⟩
    · rw [if_neg (fun z => absurd (hc.symm.trans z) (by decide)), if_pos hc] at h
      obtain ⟨o3, h⟩ := sw_ifs h
      cases h
      exact B_X10_sheep_58 (sw_inb_sp o3) ⟨_, rfl, rfl, rfl⟩
    · rw [if_neg (fun z => absurd (hc.symm.trans z) (by decide)), if_neg (fun z => absurd (hc.symm.trans z) (by decide)), if_pos hc] at h
      obtain ⟨o4, h⟩ := sw_ifs h
      cases h
      exact B_X10_sheep_68 (sw_inb_sp o4) ⟨_, rfl, rfl, rfl⟩
    · rw [if_neg (fun z => absurd (hc.symm.trans z) (by decide)), if_neg (fun z => absurd (hc.symm.trans z) (by decide)), if_neg (fun z => absurd (hc.symm.trans z) (by decide)), if_pos hc] at h
      obtain ⟨o5, h⟩ := sw_ifs h
      cases h
      exact B_X10_sheep_78 (sw_inb_sp o5) ⟨_, rfl, rfl, rfl⟩
    · rw [if_neg (fun z => absurd (hc.symm.trans z) (by decide)), if_neg (fun z => absurd (hc.symm.trans z) (by decide)), if_neg (fun z => absurd (hc.symm.trans z) (by decide)), if_neg (fun z => absurd (hc.symm.trans z) (by decide)), if_pos hc] at h
      obtain ⟨o6, h⟩ := sw_ifs h
      cases h
      exact B_X10_sheep_88 (sw_inb_sp o6) ⟨_, rfl, rfl, rfl⟩
    · rw [if_neg (fun z => absurd (hc.symm.trans z) (by decide)), if_neg (fun z => absurd (hc.symm.trans z) (by decide)), if_neg (fun z => absurd (hc.symm.trans z) (by decide)), if_neg (fun z => absurd (hc.symm.trans z) (by decide)), if_neg (fun z => absurd (hc.symm.trans z) (by decide)), if_pos hc] at h
      obtain ⟨w7, ow7, h⟩ := sw_bnd h
      obtain ⟨o8, h⟩ := sw_ifs h
      obtain ⟨o9, h⟩ := sw_ifs h
      obtain ⟨o10, h⟩ := sw_ifs h
      cases h
      exact B_X10_sheep_98 ow7 o8 o9 (sw_inb_sp o10) ⟨_, rfl, rfl, rfl⟩
    · rw [if_neg n0, if_neg n1, if_neg n2, if_neg n3, if_neg n4, if_neg n5] at h
      cases h
      exact B_X10_sheep_111  ⟨_, rfl, rfl, rfl⟩
  · rw [if_pos hc] at h
    cases h
    exact B_X10_sheep_8  ⟨_, rfl, rfl, rfl⟩
/-! StrayWool.seen(II)I -/
noncomputable def S_X10_seen_34 (σ : sw_St) (sx0 : Int32) : Option (Int32 × sw_St) :=
  some (sx0, σ)
theorem SC_X10_seen_34 {E : sw_E} {d : Nat} (hd : 1 ≤ d) {p : Int32 × sw_St} {σ : sw_St} {sx0 : Int32} (h : S_X10_seen_34 σ sx0 = some p) : sw_W E sw_gX m_X10_seen d 34 [] [.int sx0] σ (sw_pI p) := by
  unfold S_X10_seen_34 at h
  cases h
  exact B_X10_seen_34  ⟨_, rfl, rfl, rfl⟩
noncomputable def S_X10_seen_33 (σ : sw_St) : Option (Int32 × sw_St) :=
  S_X10_seen_34 σ (-1)
theorem SC_X10_seen_33 {E : sw_E} {d : Nat} (hd : 1 ≤ d) {p : Int32 × sw_St} {σ : sw_St} (h : S_X10_seen_33 σ  = some p) : sw_W E sw_gX m_X10_seen d 33 [] [] σ (sw_pI p) := by
  unfold S_X10_seen_33 at h
  refine B_X10_seen_33  ?_
  exact SC_X10_seen_34 hd h
noncomputable def F_X10_seen (σ : sw_St) (x1 : Int32) (x2 : Int32) : Option (Int32 × sw_St) :=
  (F_X10_isSheep σ x1).bind fun q1 => if q1.1 = 0 then (S_X10_seen_33 q1.2 ) else ((F_X10_isField q1.2 x2).bind fun q2 => if q2.1 = 0 then (S_X10_seen_33 q2.2 ) else (if sw_inb ((x1 * 8) + x2) 48 = true then (S_X10_seen_34 q2.2 (q2.2.1 44 (((x1 * 8) + x2).toNatClampNeg))) else none))
theorem FC_X10_seen {E : sw_E} {d : Nat} (hd : 1 ≤ d) {p : Int32 × sw_St} {σ : sw_St} {x1 : Int32} {x2 : Int32} (h : F_X10_seen σ x1 x2 = some p) : sw_KI E sw_gX m_X10_seen d [.ref 0, .int x1, .int x2] σ (fun v s => v = p.1 ∧ s = p.2) := by
  unfold F_X10_seen at h
  refine sw_K.of (by decide +kernel) rfl (Nat.le_of_ble_eq_true rfl) ?_
  show sw_W E sw_gX m_X10_seen d 0 [(0, .ref 0), (1, .int x1), (2, .int x2)] [] σ (sw_pI p)
  obtain ⟨q1, hq, h⟩ := sw_bnd h
  refine B_X10_seen_0  (FC_X10_isSheep (Nat.le_refl _) hq) (Nat.lt_of_lt_of_le (by decide) hd) (fun v s hvs => ?_)
  obtain ⟨hv1, hv2⟩ := hvs; subst hv1; subst hv2
  refine B_X10_seen_5  (fun hc => ?_) (fun hc => ?_)
  · rw [if_pos hc] at h
    exact SC_X10_seen_33 hd h
  · rw [if_neg hc] at h
    obtain ⟨q2, hq, h⟩ := sw_bnd h
    refine B_X10_seen_8  (FC_X10_isField (Nat.le_refl _) hq) (Nat.lt_of_lt_of_le (by decide) hd) (fun v s hvs => ?_)
    obtain ⟨hv1, hv2⟩ := hvs; subst hv1; subst hv2
    refine B_X10_seen_13  (fun hc => ?_) (fun hc => ?_)
    · rw [if_pos hc] at h
      exact SC_X10_seen_33 hd h
    · rw [if_neg hc] at h
      obtain ⟨o3, h⟩ := sw_ifs h
      refine B_X10_seen_16 (sw_inb_sp o3) ?_
      exact SC_X10_seen_34 hd h
/-! StrayWool.way(II)I -/
noncomputable def S_X10_way_29 (σ : sw_St) (sx0 : Int32) : Option (Int32 × sw_St) :=
  some (sx0, σ)
theorem SC_X10_way_29 {E : sw_E} {d : Nat} (hd : 2 ≤ d) {p : Int32 × sw_St} {σ : sw_St} {sx0 : Int32} (h : S_X10_way_29 σ sx0 = some p) : sw_W E sw_gX m_X10_way d 29 [] [.int sx0] σ (sw_pI p) := by
  unfold S_X10_way_29 at h
  cases h
  exact B_X10_way_29  ⟨_, rfl, rfl, rfl⟩
noncomputable def S_X10_way_28 (σ : sw_St) : Option (Int32 × sw_St) :=
  S_X10_way_29 σ (-1)
theorem SC_X10_way_28 {E : sw_E} {d : Nat} (hd : 2 ≤ d) {p : Int32 × sw_St} {σ : sw_St} (h : S_X10_way_28 σ  = some p) : sw_W E sw_gX m_X10_way d 28 [] [] σ (sw_pI p) := by
  unfold S_X10_way_28 at h
  refine B_X10_way_28  ?_
  exact SC_X10_way_29 hd h
noncomputable def F_X10_way (σ : sw_St) (x1 : Int32) (x2 : Int32) : Option (Int32 × sw_St) :=
  (F_X10_isField σ x1).bind fun q1 => if q1.1 = 0 then (S_X10_way_28 q1.2 ) else ((F_X10_isField q1.2 x2).bind fun q2 => if q2.1 = 0 then (S_X10_way_28 q2.2 ) else ((F_X1_fewestMiles q2.2 x1 x2).bind fun q3 => S_X10_way_29 q3.2 q3.1))
theorem FC_X10_way {E : sw_E} {d : Nat} (hd : 2 ≤ d) {p : Int32 × sw_St} {σ : sw_St} {x1 : Int32} {x2 : Int32} (h : F_X10_way σ x1 x2 = some p) : sw_KI E sw_gX m_X10_way d [.ref 0, .int x1, .int x2] σ (fun v s => v = p.1 ∧ s = p.2) := by
  unfold F_X10_way at h
  refine sw_K.of (by decide +kernel) rfl (Nat.le_of_ble_eq_true rfl) ?_
  show sw_W E sw_gX m_X10_way d 0 [(0, .ref 0), (1, .int x1), (2, .int x2)] [] σ (sw_pI p)
  obtain ⟨q1, hq, h⟩ := sw_bnd h
  refine B_X10_way_0  (FC_X10_isField (Nat.le_refl _) hq) (Nat.lt_of_lt_of_le (by decide) hd) (fun v s hvs => ?_)
  obtain ⟨hv1, hv2⟩ := hvs; subst hv1; subst hv2
  refine B_X10_way_5  (fun hc => ?_) (fun hc => ?_)
  · rw [if_pos hc] at h
    exact SC_X10_way_28 hd h
  · rw [if_neg hc] at h
    obtain ⟨q2, hq, h⟩ := sw_bnd h
    refine B_X10_way_8  (FC_X10_isField (Nat.le_refl _) hq) (Nat.lt_of_lt_of_le (by decide) hd) (fun v s hvs => ?_)
    obtain ⟨hv1, hv2⟩ := hvs; subst hv1; subst hv2
    refine B_X10_way_13  (fun hc => ?_) (fun hc => ?_)
    · rw [if_pos hc] at h
      exact SC_X10_way_28 hd h
    · rw [if_neg hc] at h
      obtain ⟨q3, hq, h⟩ := sw_bnd h
      refine B_X10_way_16  (FC_X1_fewestMiles (Nat.le_refl _) hq) (Nat.lt_of_lt_of_le (by decide) hd) (fun v s hvs => ?_)
      obtain ⟨hv1, hv2⟩ := hvs; subst hv1; subst hv2
      refine B_X10_way_25  ?_
      exact SC_X10_way_29 hd h
/-! StrayWool.coat(I)I -/
noncomputable def S_X10_coat_24 (σ : sw_St) (sx0 : Int32) : Option (Int32 × sw_St) :=
  some (sx0, σ)
theorem SC_X10_coat_24 {E : sw_E} {d : Nat} (hd : 2 ≤ d) {p : Int32 × sw_St} {σ : sw_St} {sx0 : Int32} (h : S_X10_coat_24 σ sx0 = some p) : sw_W E sw_gX m_X10_coat d 24 [] [.int sx0] σ (sw_pI p) := by
  unfold S_X10_coat_24 at h
  cases h
  exact B_X10_coat_24  ⟨_, rfl, rfl, rfl⟩
noncomputable def S_X10_coat_12 (σ : sw_St) : Option (Int32 × sw_St) :=
  S_X10_coat_24 σ (-1)
theorem SC_X10_coat_12 {E : sw_E} {d : Nat} (hd : 2 ≤ d) {p : Int32 × sw_St} {σ : sw_St} (h : S_X10_coat_12 σ  = some p) : sw_W E sw_gX m_X10_coat d 12 [] [] σ (sw_pI p) := by
  unfold S_X10_coat_12 at h
  refine B_X10_coat_12  ?_
  exact SC_X10_coat_24 hd h
noncomputable def F_X10_coat (σ : sw_St) (x1 : Int32) : Option (Int32 × sw_St) :=
  if x1 < 1 then (S_X10_coat_12 σ ) else (if x1 ≤ 9999 then ((F_X1_leastCoat σ x1).bind fun q1 => S_X10_coat_24 q1.2 q1.1) else (S_X10_coat_12 σ ))
theorem FC_X10_coat {E : sw_E} {d : Nat} (hd : 2 ≤ d) {p : Int32 × sw_St} {σ : sw_St} {x1 : Int32} (h : F_X10_coat σ x1 = some p) : sw_KI E sw_gX m_X10_coat d [.ref 0, .int x1] σ (fun v s => v = p.1 ∧ s = p.2) := by
  unfold F_X10_coat at h
  refine sw_K.of (by decide +kernel) rfl (Nat.le_of_ble_eq_true rfl) ?_
  show sw_W E sw_gX m_X10_coat d 0 [(0, .ref 0), (1, .int x1)] [] σ (sw_pI p)
  refine B_X10_coat_0  (fun hc => ?_) (fun hc => ?_)
  · rw [if_pos hc] at h
    exact SC_X10_coat_12 hd h
  · rw [if_neg hc] at h
    refine B_X10_coat_5  (fun hc => ?_) (fun hc => ?_)
    · rw [if_pos hc] at h
      obtain ⟨q1, hq, h⟩ := sw_bnd h
      refine B_X10_coat_16  (FC_X1_leastCoat (Nat.le_refl _) hq) (Nat.lt_of_lt_of_le (by decide) hd) (fun v s hvs => ?_)
      obtain ⟨hv1, hv2⟩ := hvs; subst hv1; subst hv2
      exact SC_X10_coat_24 hd h
    · rw [if_neg hc] at h
      exact SC_X10_coat_12 hd h
/-! StrayWool.ways(III)J -/
noncomputable def S_X10_ways_28 (σ : sw_St) : Option (Int64 × sw_St) :=
  some ((-1000000000000000), σ)
theorem SC_X10_ways_28 {E : sw_E} {d : Nat} (hd : 2 ≤ d) {p : Int64 × sw_St} {σ : sw_St} (h : S_X10_ways_28 σ  = some p) : sw_W E sw_gX m_X10_ways d 28 [] [] σ (sw_pL p) := by
  unfold S_X10_ways_28 at h
  cases h
  exact B_X10_ways_28  ⟨_, rfl, rfl, rfl⟩
noncomputable def F_X10_ways (σ : sw_St) (x1 : Int32) (x2 : Int32) (x3 : Int32) : Option (Int64 × sw_St) :=
  (F_X10_isField σ x1).bind fun q1 => if q1.1 = 0 then (S_X10_ways_28 q1.2 ) else (if x2 < 0 then (S_X10_ways_28 q1.2 ) else (if 12 < x2 then (S_X10_ways_28 q1.2 ) else (if x3 < 0 then (S_X10_ways_28 q1.2 ) else (if x3 < 64 then ((F_X1_countWays q1.2 x1 x2 x3).bind fun q2 => some (q2.1, q2.2)) else (S_X10_ways_28 q1.2 )))))
theorem FC_X10_ways {E : sw_E} {d : Nat} (hd : 2 ≤ d) {p : Int64 × sw_St} {σ : sw_St} {x1 : Int32} {x2 : Int32} {x3 : Int32} (h : F_X10_ways σ x1 x2 x3 = some p) : sw_KL E sw_gX m_X10_ways d [.ref 0, .int x1, .int x2, .int x3] σ (fun v s => v = p.1 ∧ s = p.2) := by
  unfold F_X10_ways at h
  refine sw_K.of (by decide +kernel) rfl (Nat.le_of_ble_eq_true rfl) ?_
  show sw_W E sw_gX m_X10_ways d 0 [(0, .ref 0), (1, .int x1), (2, .int x2), (3, .int x3)] [] σ (sw_pL p)
  obtain ⟨q1, hq, h⟩ := sw_bnd h
  refine B_X10_ways_0  (FC_X10_isField (Nat.le_refl _) hq) (Nat.lt_of_lt_of_le (by decide) hd) (fun v s hvs => ?_)
  obtain ⟨hv1, hv2⟩ := hvs; subst hv1; subst hv2
  refine B_X10_ways_5  (fun hc => ?_) (fun hc => ?_)
  · rw [if_pos hc] at h
    exact SC_X10_ways_28 hd h
  · rw [if_neg hc] at h
    refine B_X10_ways_8  (fun hc => ?_) (fun hc => ?_)
    · rw [if_pos hc] at h
      exact SC_X10_ways_28 hd h
    · rw [if_neg hc] at h
      refine B_X10_ways_12  (fun hc => ?_) (fun hc => ?_)
      · rw [if_pos hc] at h
        exact SC_X10_ways_28 hd h
      · rw [if_neg hc] at h
        refine B_X10_ways_18  (fun hc => ?_) (fun hc => ?_)
        · rw [if_pos hc] at h
          exact SC_X10_ways_28 hd h
        · rw [if_neg hc] at h
          refine B_X10_ways_22  (fun hc => ?_) (fun hc => ?_)
          · rw [if_pos hc] at h
            obtain ⟨q2, hq, h⟩ := sw_bnd h
            refine B_X10_ways_32  (FC_X1_countWays (Nat.le_refl _) hq) (Nat.lt_of_lt_of_le (by decide) hd) (fun v s hvs => ?_)
            obtain ⟨hv1, hv2⟩ := hvs; subst hv1; subst hv2
            cases h
            exact B_X10_ways_42  ⟨_, rfl, rfl, rfl⟩
          · rw [if_neg hc] at h
            exact SC_X10_ways_28 hd h
/-! StrayWool.feel()I -/
noncomputable def S_X10_feel_35 (σ : sw_St) (sx0 : Int32) : Option (Int32 × sw_St) :=
  some (sx0, σ)
theorem SC_X10_feel_35 {E : sw_E} {d : Nat} (hd : 1 ≤ d) {p : Int32 × sw_St} {σ : sw_St} {sx0 : Int32} (h : S_X10_feel_35 σ sx0 = some p) : sw_W E sw_gX m_X10_feel d 35 [] [.int sx0] σ (sw_pI p) := by
  unfold S_X10_feel_35 at h
  cases h
  exact B_X10_feel_35  ⟨_, rfl, rfl, rfl⟩
noncomputable def F_X10_feel (σ : sw_St) : Option (Int32 × sw_St) :=
  (F_X10_takeTape σ ).bind fun q1 => (F_X1_takeFelt q1.2 1 q1.1).bind fun q2 => if q2.1 = 0 then ((F_X10_refuse q2.2 1).bind fun q3 => S_X10_feel_35 q3.2 q3.1) else (S_X10_feel_35 q2.2 (q2.2.1 54 4))
theorem FC_X10_feel {E : sw_E} {d : Nat} (hd : 1 ≤ d) {p : Int32 × sw_St} {σ : sw_St} (h : F_X10_feel σ  = some p) : sw_KI E sw_gX m_X10_feel d [.ref 0] σ (fun v s => v = p.1 ∧ s = p.2) := by
  unfold F_X10_feel at h
  refine sw_K.of (by decide +kernel) rfl (Nat.le_of_ble_eq_true rfl) ?_
  show sw_W E sw_gX m_X10_feel d 0 [(0, .ref 0)] [] σ (sw_pI p)
  obtain ⟨q1, hq, h⟩ := sw_bnd h
  refine B_X10_feel_0  (FC_X10_takeTape (Nat.le_refl _) hq) (Nat.lt_of_lt_of_le (by decide) hd) (fun v s hvs => ?_)
  obtain ⟨hv1, hv2⟩ := hvs; subst hv1; subst hv2
  obtain ⟨q2, hq, h⟩ := sw_bnd h
  refine B_X10_feel_4  (FC_X1_takeFelt (Nat.le_refl _) hq) (Nat.lt_of_lt_of_le (by decide) hd) (fun v s hvs => ?_)
  obtain ⟨hv1, hv2⟩ := hvs; subst hv1; subst hv2
  refine B_X10_feel_17  (fun hc => ?_) (fun hc => ?_)
  · rw [if_pos hc] at h
    obtain ⟨q3, hq, h⟩ := sw_bnd h
    refine B_X10_feel_30  (FC_X10_refuse (Nat.le_refl _) hq) (Nat.lt_of_lt_of_le (by decide) hd) (fun v s hvs => ?_)
    obtain ⟨hv1, hv2⟩ := hvs; subst hv1; subst hv2
    exact SC_X10_feel_35 hd h
  · rw [if_neg hc] at h
    refine B_X10_feel_20  ?_
    exact SC_X10_feel_35 hd h
/-! StrayWool.lead(II)Z -/
noncomputable def S_X10_lead_32 (σ : sw_St) : Option (Int32 × sw_St) :=
  (F_X10_refuse σ 2).bind fun q1 => some (0, q1.2)
theorem SC_X10_lead_32 {E : sw_E} {d : Nat} (hd : 3 ≤ d) {p : Int32 × sw_St} {σ : sw_St} (h : S_X10_lead_32 σ  = some p) : sw_W E sw_gX m_X10_lead d 32 [(0, .ref 0)] [] σ (sw_pI p) := by
  unfold S_X10_lead_32 at h
  obtain ⟨q1, hq, h⟩ := sw_bnd h
  refine B_X10_lead_32  (FC_X10_refuse (Nat.le_refl _) hq) (Nat.lt_of_lt_of_le (by decide) hd) (fun v s hvs => ?_)
  obtain ⟨hv1, hv2⟩ := hvs; subst hv1; subst hv2
  cases h
  exact B_X10_lead_37  ⟨_, rfl, rfl, rfl⟩
noncomputable def F_X10_lead (σ : sw_St) (x1 : Int32) (x2 : Int32) : Option (Int32 × sw_St) :=
  (F_X10_isSheep σ x1).bind fun q1 => if q1.1 = 0 then (S_X10_lead_32 q1.2 ) else ((F_X10_isGap q1.2 x2).bind fun q2 => if q2.1 = 0 then (S_X10_lead_32 q2.2 ) else ((F_X2_leads q2.2 38 x1 x2).bind fun q3 => if q3.1 = 0 then (S_X10_lead_32 q3.2 ) else ((F_X4_remember q3.2 38).bind fun q4 => (F_X2_passThrough q4.2 38 x1 x2).bind fun q5 => if sw_inb x1 6 = true then (some (1, (sw_uI q5.2 42 x1.toNatClampNeg 1))) else none)))
theorem FC_X10_lead {E : sw_E} {d : Nat} (hd : 3 ≤ d) {p : Int32 × sw_St} {σ : sw_St} {x1 : Int32} {x2 : Int32} (h : F_X10_lead σ x1 x2 = some p) : sw_KI E sw_gX m_X10_lead d [.ref 0, .int x1, .int x2] σ (fun v s => v = p.1 ∧ s = p.2) := by
  unfold F_X10_lead at h
  refine sw_K.of (by decide +kernel) rfl (Nat.le_of_ble_eq_true rfl) ?_
  show sw_W E sw_gX m_X10_lead d 0 [(0, .ref 0), (1, .int x1), (2, .int x2)] [] σ (sw_pI p)
  obtain ⟨q1, hq, h⟩ := sw_bnd h
  refine B_X10_lead_0  (FC_X10_isSheep (Nat.le_refl _) hq) (Nat.lt_of_lt_of_le (by decide) hd) (fun v s hvs => ?_)
  obtain ⟨hv1, hv2⟩ := hvs; subst hv1; subst hv2
  refine B_X10_lead_5  (fun hc => ?_) (fun hc => ?_)
  · rw [if_pos hc] at h
    exact SC_X10_lead_32 hd h
  · rw [if_neg hc] at h
    obtain ⟨q2, hq, h⟩ := sw_bnd h
    refine B_X10_lead_8  (FC_X10_isGap (Nat.le_refl _) hq) (Nat.lt_of_lt_of_le (by decide) hd) (fun v s hvs => ?_)
    obtain ⟨hv1, hv2⟩ := hvs; subst hv1; subst hv2
    refine B_X10_lead_13  (fun hc => ?_) (fun hc => ?_)
    · rw [if_pos hc] at h
      exact SC_X10_lead_32 hd h
    · rw [if_neg hc] at h
      obtain ⟨q3, hq, h⟩ := sw_bnd h
      refine B_X10_lead_16  (FC_X2_leads (Nat.le_refl _) hq) (Nat.lt_of_lt_of_le (by decide) hd) (fun v s hvs => ?_)
      obtain ⟨hv1, hv2⟩ := hvs; subst hv1; subst hv2
      refine B_X10_lead_29  (fun hc => ?_) (fun hc => ?_)
      · rw [if_neg hc] at h
        obtain ⟨q4, hq, h⟩ := sw_bnd h
        refine B_X10_lead_40  (FC_X4_remember (Nat.le_refl _) hq) (Nat.lt_of_lt_of_le (by decide) hd) (fun s hvs => ?_)
        subst hvs
        obtain ⟨q5, hq, h⟩ := sw_bnd h
        refine B_X10_lead_51  (FC_X2_passThrough (Nat.le_refl _) hq) (Nat.lt_of_lt_of_le (by decide) hd) (fun s hvs => ?_)
        subst hvs
        obtain ⟨o6, h⟩ := sw_ifs h
        cases h
        exact B_X10_lead_64 (sw_inb_sp o6) ⟨_, rfl, rfl, rfl⟩
      · rw [if_pos hc] at h
        exact SC_X10_lead_32 hd h
/-! StrayWool.swing(II)Z -/
noncomputable def S_X10_swing_32 (σ : sw_St) : Option (Int32 × sw_St) :=
  (F_X10_refuse σ 2).bind fun q1 => some (0, q1.2)
theorem SC_X10_swing_32 {E : sw_E} {d : Nat} (hd : 3 ≤ d) {p : Int32 × sw_St} {σ : sw_St} (h : S_X10_swing_32 σ  = some p) : sw_W E sw_gX m_X10_swing d 32 [(0, .ref 0)] [] σ (sw_pI p) := by
  unfold S_X10_swing_32 at h
  obtain ⟨q1, hq, h⟩ := sw_bnd h
  refine B_X10_swing_32  (FC_X10_refuse (Nat.le_refl _) hq) (Nat.lt_of_lt_of_le (by decide) hd) (fun v s hvs => ?_)
  obtain ⟨hv1, hv2⟩ := hvs; subst hv1; subst hv2
  cases h
  exact B_X10_swing_37  ⟨_, rfl, rfl, rfl⟩
noncomputable def F_X10_swing (σ : sw_St) (x1 : Int32) (x2 : Int32) : Option (Int32 × sw_St) :=
  (F_X10_isGap σ x1).bind fun q1 => if q1.1 = 0 then (S_X10_swing_32 q1.2 ) else (if x2 < 0 then (S_X10_swing_32 q1.2 ) else (if 1 < x2 then (S_X10_swing_32 q1.2 ) else (if (((q1.2.1 38 2) >>> (x1 &&& 31)) &&& 1) = x2 then (S_X10_swing_32 q1.2 ) else ((F_X4_remember q1.2 38).bind fun q2 => some (1, (sw_uI q2.2 38 2 ((q2.2.1 38 2) ^^^ ((1 : Int32) <<< (x1 &&& 31)))))))))
theorem FC_X10_swing {E : sw_E} {d : Nat} (hd : 3 ≤ d) {p : Int32 × sw_St} {σ : sw_St} {x1 : Int32} {x2 : Int32} (h : F_X10_swing σ x1 x2 = some p) : sw_KI E sw_gX m_X10_swing d [.ref 0, .int x1, .int x2] σ (fun v s => v = p.1 ∧ s = p.2) := by
  unfold F_X10_swing at h
  refine sw_K.of (by decide +kernel) rfl (Nat.le_of_ble_eq_true rfl) ?_
  show sw_W E sw_gX m_X10_swing d 0 [(0, .ref 0), (1, .int x1), (2, .int x2)] [] σ (sw_pI p)
  obtain ⟨q1, hq, h⟩ := sw_bnd h
  refine B_X10_swing_0  (FC_X10_isGap (Nat.le_refl _) hq) (Nat.lt_of_lt_of_le (by decide) hd) (fun v s hvs => ?_)
  obtain ⟨hv1, hv2⟩ := hvs; subst hv1; subst hv2
  refine B_X10_swing_5  (fun hc => ?_) (fun hc => ?_)
  · rw [if_pos hc] at h
    exact SC_X10_swing_32 hd h
  · rw [if_neg hc] at h
    refine B_X10_swing_8  (fun hc => ?_) (fun hc => ?_)
    · rw [if_pos hc] at h
      exact SC_X10_swing_32 hd h
    · rw [if_neg hc] at h
      refine B_X10_swing_12  (fun hc => ?_) (fun hc => ?_)
      · rw [if_pos hc] at h
        exact SC_X10_swing_32 hd h
      · rw [if_neg hc] at h
        refine B_X10_swing_17  (fun hc => ?_) (fun hc => ?_)
        · rw [if_neg hc] at h
          obtain ⟨q2, hq, h⟩ := sw_bnd h
          refine B_X10_swing_40  (FC_X4_remember (Nat.le_refl _) hq) (Nat.lt_of_lt_of_le (by decide) hd) (fun s hvs => ?_)
          subst hvs
          cases h
          exact B_X10_swing_51  ⟨_, rfl, rfl, rfl⟩
        · rw [if_pos hc] at h
          exact SC_X10_swing_32 hd h
/-! StrayWool.tell(III)Z -/
noncomputable def S_X10_tell_44 (σ : sw_St) : Option (Int32 × sw_St) :=
  (F_X10_refuse σ 2).bind fun q1 => some (0, q1.2)
theorem SC_X10_tell_44 {E : sw_E} {d : Nat} (hd : 3 ≤ d) {p : Int32 × sw_St} {σ : sw_St} (h : S_X10_tell_44 σ  = some p) : sw_W E sw_gX m_X10_tell d 44 [(0, .ref 0)] [] σ (sw_pI p) := by
  unfold S_X10_tell_44 at h
  obtain ⟨q1, hq, h⟩ := sw_bnd h
  refine B_X10_tell_44  (FC_X10_refuse (Nat.le_refl _) hq) (Nat.lt_of_lt_of_le (by decide) hd) (fun v s hvs => ?_)
  obtain ⟨hv1, hv2⟩ := hvs; subst hv1; subst hv2
  cases h
  exact B_X10_tell_49  ⟨_, rfl, rfl, rfl⟩
noncomputable def F_X10_tell (σ : sw_St) (x1 : Int32) (x2 : Int32) (x3 : Int32) : Option (Int32 × sw_St) :=
  (F_X10_isSheep σ x1).bind fun q1 => if q1.1 = 0 then (S_X10_tell_44 q1.2 ) else ((F_X10_isField q1.2 x2).bind fun q2 => if q2.1 = 0 then (S_X10_tell_44 q2.2 ) else (if x3 < 0 then (S_X10_tell_44 q2.2 ) else (if 99 < x3 then (S_X10_tell_44 q2.2 ) else (if sw_inb ((x1 * 8) + x2) 48 = true then (if (q2.2.1 44 (((x1 * 8) + x2).toNatClampNeg)) = x3 then (S_X10_tell_44 q2.2 ) else ((F_X4_remember q2.2 38).bind fun q4 => if sw_inb ((x1 * 8) + x2) 48 = true then (some (1, (sw_uI q4.2 44 (((x1 * 8) + x2).toNatClampNeg) x3))) else none)) else none))))
theorem FC_X10_tell {E : sw_E} {d : Nat} (hd : 3 ≤ d) {p : Int32 × sw_St} {σ : sw_St} {x1 : Int32} {x2 : Int32} {x3 : Int32} (h : F_X10_tell σ x1 x2 x3 = some p) : sw_KI E sw_gX m_X10_tell d [.ref 0, .int x1, .int x2, .int x3] σ (fun v s => v = p.1 ∧ s = p.2) := by
  unfold F_X10_tell at h
  refine sw_K.of (by decide +kernel) rfl (Nat.le_of_ble_eq_true rfl) ?_
  show sw_W E sw_gX m_X10_tell d 0 [(0, .ref 0), (1, .int x1), (2, .int x2), (3, .int x3)] [] σ (sw_pI p)
  obtain ⟨q1, hq, h⟩ := sw_bnd h
  refine B_X10_tell_0  (FC_X10_isSheep (Nat.le_refl _) hq) (Nat.lt_of_lt_of_le (by decide) hd) (fun v s hvs => ?_)
  obtain ⟨hv1, hv2⟩ := hvs; subst hv1; subst hv2
  refine B_X10_tell_5  (fun hc => ?_) (fun hc => ?_)
  · rw [if_pos hc] at h
    exact SC_X10_tell_44 hd h
  · rw [if_neg hc] at h
    obtain ⟨q2, hq, h⟩ := sw_bnd h
    refine B_X10_tell_8  (FC_X10_isField (Nat.le_refl _) hq) (Nat.lt_of_lt_of_le (by decide) hd) (fun v s hvs => ?_)
    obtain ⟨hv1, hv2⟩ := hvs; subst hv1; subst hv2
    refine B_X10_tell_13  (fun hc => ?_) (fun hc => ?_)
    · rw [if_pos hc] at h
      exact SC_X10_tell_44 hd h
    · rw [if_neg hc] at h
      refine B_X10_tell_16  (fun hc => ?_) (fun hc => ?_)
      · rw [if_pos hc] at h
        exact SC_X10_tell_44 hd h
      · rw [if_neg hc] at h
        refine B_X10_tell_20  (fun hc => ?_) (fun hc => ?_)
        · rw [if_pos hc] at h
          exact SC_X10_tell_44 hd h
        · rw [if_neg hc] at h
          obtain ⟨o3, h⟩ := sw_ifs h
          refine B_X10_tell_26 (sw_inb_sp o3) (fun hc => ?_) (fun hc => ?_)
          · rw [if_neg hc] at h
            obtain ⟨q4, hq, h⟩ := sw_bnd h
            refine B_X10_tell_52  (FC_X4_remember (Nat.le_refl _) hq) (Nat.lt_of_lt_of_le (by decide) hd) (fun s hvs => ?_)
            subst hvs
            obtain ⟨o5, h⟩ := sw_ifs h
            cases h
            exact B_X10_tell_63 (sw_inb_sp o5) ⟨_, rfl, rfl, rfl⟩
          · rw [if_pos hc] at h
            exact SC_X10_tell_44 hd h
/-! StrayWool.undo()Z -/
noncomputable def F_X10_undo (σ : sw_St) : Option (Int32 × sw_St) :=
  if (σ.1 62 2) = 0 then ((F_X10_refuse σ 4).bind fun q2 => some (0, q2.2)) else ((F_X4_restore σ 38).bind fun q1 => some (1, q1.2))
theorem FC_X10_undo {E : sw_E} {d : Nat} (hd : 3 ≤ d) {p : Int32 × sw_St} {σ : sw_St} (h : F_X10_undo σ  = some p) : sw_KI E sw_gX m_X10_undo d [.ref 0] σ (fun v s => v = p.1 ∧ s = p.2) := by
  unfold F_X10_undo at h
  refine sw_K.of (by decide +kernel) rfl (Nat.le_of_ble_eq_true rfl) ?_
  show sw_W E sw_gX m_X10_undo d 0 [(0, .ref 0)] [] σ (sw_pI p)
  refine B_X10_undo_0  (fun hc => ?_) (fun hc => ?_)
  · rw [if_neg hc] at h
    obtain ⟨q1, hq, h⟩ := sw_bnd h
    refine B_X10_undo_18  (FC_X4_restore (Nat.le_refl _) hq) (Nat.lt_of_lt_of_le (by decide) hd) (fun s hvs => ?_)
    subst hvs
    cases h
    exact B_X10_undo_29  ⟨_, rfl, rfl, rfl⟩
  · rw [if_pos hc] at h
    obtain ⟨q2, hq, h⟩ := sw_bnd h
    refine B_X10_undo_10  (FC_X10_refuse (Nat.le_refl _) hq) (Nat.lt_of_lt_of_le (by decide) hd) (fun v s hvs => ?_)
    obtain ⟨hv1, hv2⟩ := hvs; subst hv1; subst hv2
    cases h
    exact B_X10_undo_15  ⟨_, rfl, rfl, rfl⟩
/-! StrayWool.seed(I)Z -/
noncomputable def F_X10_seed (σ : sw_St) (x1 : Int32) : Option (Int32 × sw_St) :=
  if 0 ≤ x1 then (some (1, (sw_uI σ 0 13 x1))) else ((F_X10_refuse σ 5).bind fun q1 => some (0, q1.2))
theorem FC_X10_seed {E : sw_E} {d : Nat} (hd : 1 ≤ d) {p : Int32 × sw_St} {σ : sw_St} {x1 : Int32} (h : F_X10_seed σ x1 = some p) : sw_KI E sw_gX m_X10_seed d [.ref 0, .int x1] σ (fun v s => v = p.1 ∧ s = p.2) := by
  unfold F_X10_seed at h
  refine sw_K.of (by decide +kernel) rfl (Nat.le_of_ble_eq_true rfl) ?_
  show sw_W E sw_gX m_X10_seed d 0 [(0, .ref 0), (1, .int x1)] [] σ (sw_pI p)
  refine B_X10_seed_0  (fun hc => ?_) (fun hc => ?_)
  · rw [if_pos hc] at h
    cases h
    exact B_X10_seed_12  ⟨_, rfl, rfl, rfl⟩
  · rw [if_neg hc] at h
    obtain ⟨q1, hq, h⟩ := sw_bnd h
    refine B_X10_seed_4  (FC_X10_refuse (Nat.le_refl _) hq) (Nat.lt_of_lt_of_le (by decide) hd) (fun v s hvs => ?_)
    obtain ⟨hv1, hv2⟩ := hvs; subst hv1; subst hv2
    cases h
    exact B_X10_seed_9  ⟨_, rfl, rfl, rfl⟩
/-! StrayWool.image()I -/
noncomputable def F_X10_image (σ : sw_St) : Option (Int32 × sw_St) :=
  (σ.2.2 33 0).bind fun w1 => ((F_X5_write σ w1 38).bind fun q2 => some (q2.2.1 224 1, q2.2))
theorem FC_X10_image {E : sw_E} {d : Nat} (hd : 2 ≤ d) {p : Int32 × sw_St} {σ : sw_St} (h : F_X10_image σ  = some p) : sw_KI E sw_gX m_X10_image d [.ref 0] σ (fun v s => v = p.1 ∧ s = p.2) := by
  unfold F_X10_image at h
  refine sw_K.of (by decide +kernel) rfl (Nat.le_of_ble_eq_true rfl) ?_
  show sw_W E sw_gX m_X10_image d 0 [(0, .ref 0)] [] σ (sw_pI p)
  obtain ⟨w1, ow1, h⟩ := sw_bnd h
  obtain ⟨q2, hq, h⟩ := sw_bnd h
  refine B_X10_image_0 ow1 (FC_X5_write (Nat.le_refl _) hq) (Nat.lt_of_lt_of_le (by decide) hd) (fun s hvs => ?_)
  subst hvs
  cases h
  exact B_X10_image_18  ⟨_, rfl, rfl, rfl⟩
/-! StrayWool.on()Z -/
noncomputable def F_X10_on (σ : sw_St) : Option (Int32 × sw_St) :=
  (F_X10_takeTape σ ).bind fun q1 => (q1.2.2.2 33 0).bind fun w2 => ((F_X8_begin q1.2 46 w2).bind fun q3 => (q3.2.2.2 33 0).bind fun w4 => ((F_X5_read q3.2 1 q1.1 w4 46).bind fun q5 => if q5.1 = 0 then ((F_X10_refuse q5.2 5).bind fun q8 => some (0, q8.2)) else ((F_X8_copyFrom q5.2 38 46).bind fun q6 => (F_X4_clear q6.2 ).bind fun q7 => some (1, q7.2))))
theorem FC_X10_on {E : sw_E} {d : Nat} (hd : 2 ≤ d) {p : Int32 × sw_St} {σ : sw_St} (h : F_X10_on σ  = some p) : sw_KI E sw_gX m_X10_on d [.ref 0] σ (fun v s => v = p.1 ∧ s = p.2) := by
  unfold F_X10_on at h
  refine sw_K.of (by decide +kernel) rfl (Nat.le_of_ble_eq_true rfl) ?_
  show sw_W E sw_gX m_X10_on d 0 [(0, .ref 0)] [] σ (sw_pI p)
  obtain ⟨q1, hq, h⟩ := sw_bnd h
  refine B_X10_on_0  (FC_X10_takeTape (Nat.le_refl _) hq) (Nat.lt_of_lt_of_le (by decide) hd) (fun v s hvs => ?_)
  obtain ⟨hv1, hv2⟩ := hvs; subst hv1; subst hv2
  obtain ⟨w2, ow2, h⟩ := sw_bnd h
  obtain ⟨q3, hq, h⟩ := sw_bnd h
  refine B_X10_on_4 ow2 (FC_X8_begin (Nat.le_refl _) hq) (Nat.lt_of_lt_of_le (by decide) hd) (fun s hvs => ?_)
  subst hvs
  obtain ⟨w4, ow4, h⟩ := sw_bnd h
  obtain ⟨q5, hq, h⟩ := sw_bnd h
  refine B_X10_on_19 ow4 (FC_X5_read (Nat.le_refl _) hq) (Nat.lt_of_lt_of_le (by decide) hd) (fun v s hvs => ?_)
  obtain ⟨hv1, hv2⟩ := hvs; subst hv1; subst hv2
  refine B_X10_on_42  (fun hc => ?_) (fun hc => ?_)
  · rw [if_neg hc] at h
    obtain ⟨q6, hq, h⟩ := sw_bnd h
    refine B_X10_on_53  (FC_X8_copyFrom (Nat.le_refl _) hq) (Nat.lt_of_lt_of_le (by decide) hd) (fun s hvs => ?_)
    subst hvs
    obtain ⟨q7, hq, h⟩ := sw_bnd h
    refine B_X10_on_64  (FC_X4_clear (Nat.le_refl _) hq) (Nat.lt_of_lt_of_le (by decide) hd) (fun s hvs => ?_)
    subst hvs
    cases h
    exact B_X10_on_71  ⟨_, rfl, rfl, rfl⟩
  · rw [if_pos hc] at h
    obtain ⟨q8, hq, h⟩ := sw_bnd h
    refine B_X10_on_45  (FC_X10_refuse (Nat.le_refl _) hq) (Nat.lt_of_lt_of_le (by decide) hd) (fun v s hvs => ?_)
    obtain ⟨hv1, hv2⟩ := hvs; subst hv1; subst hv2
    cases h
    exact B_X10_on_50  ⟨_, rfl, rfl, rfl⟩
/-! StrayWool.stormComes()Z -/
noncomputable def S_X10_stormComes_32 (σ : sw_St) : Option (Int32 × sw_St) :=
  some (0, σ)
theorem SC_X10_stormComes_32 {E : sw_E} {d : Nat} (hd : 1 ≤ d) {p : Int32 × sw_St} {σ : sw_St} (h : S_X10_stormComes_32 σ  = some p) : sw_W E sw_gX m_X10_stormComes d 32 [] [] σ (sw_pI p) := by
  unfold S_X10_stormComes_32 at h
  cases h
  exact B_X10_stormComes_32  ⟨_, rfl, rfl, rfl⟩
noncomputable def F_X10_stormComes (σ : sw_St) : Option (Int32 × sw_St) :=
  (F_X10_draw σ 100).bind fun q1 => (q1.2.2.2 33 0).bind fun w2 => (if sw_isO sw_gX w2 9 = true then (if (q1.2.1 w2 4) ≤ q1.1 then (S_X10_stormComes_32 q1.2 ) else ((q1.2.2.2 33 0).bind fun w4 => (if sw_isO sw_gX w4 9 = true then (if (q1.2.1 w4 2) = 0 then (S_X10_stormComes_32 q1.2 ) else ((q1.2.2.2 33 0).bind fun w6 => (if sw_isO sw_gX w6 9 = true then ((F_X10_draw q1.2 (q1.2.1 w6 2)).bind fun q8 => some (1, (sw_uI q8.2 38 2 ((q1.2.1 38 2) ^^^ ((1 : Int32) <<< (q8.1 &&& 31)))))) else none))) else none))) else none)
theorem FC_X10_stormComes {E : sw_E} {d : Nat} (hd : 1 ≤ d) {p : Int32 × sw_St} {σ : sw_St} (h : F_X10_stormComes σ  = some p) : sw_KI E sw_gX m_X10_stormComes d [.ref 0] σ (fun v s => v = p.1 ∧ s = p.2) := by
  unfold F_X10_stormComes at h
  refine sw_K.of (by decide +kernel) rfl (Nat.le_of_ble_eq_true rfl) ?_
  show sw_W E sw_gX m_X10_stormComes d 0 [(0, .ref 0)] [] σ (sw_pI p)
  obtain ⟨q1, hq, h⟩ := sw_bnd h
  refine B_X10_stormComes_0  (FC_X10_draw (Nat.le_refl _) hq) (Nat.lt_of_lt_of_le (by decide) hd) (fun v s hvs => ?_)
  obtain ⟨hv1, hv2⟩ := hvs; subst hv1; subst hv2
  obtain ⟨w2, ow2, h⟩ := sw_bnd h
  obtain ⟨o3, h⟩ := sw_ifs h
  refine B_X10_stormComes_6 ow2 o3 (fun hc => ?_) (fun hc => ?_)
  · rw [if_pos hc] at h
    exact SC_X10_stormComes_32 hd h
  · rw [if_neg hc] at h
    obtain ⟨w4, ow4, h⟩ := sw_bnd h
    obtain ⟨o5, h⟩ := sw_ifs h
    refine B_X10_stormComes_19 ow4 o5 (fun hc => ?_) (fun hc => ?_)
    · rw [if_neg hc] at h
      obtain ⟨w6, ow6, h⟩ := sw_bnd h
      obtain ⟨o7, h⟩ := sw_ifs h
      obtain ⟨q8, hq, h⟩ := sw_bnd h
      refine B_X10_stormComes_34 ow6 o7 (FC_X10_draw (Nat.le_refl _) hq) (Nat.lt_of_lt_of_le (by decide) hd) (fun v s hvs => ?_)
      obtain ⟨hv1, hv2⟩ := hvs; subst hv1; subst hv2
      cases h
      exact B_X10_stormComes_57  ⟨_, rfl, rfl, rfl⟩
    · rw [if_pos hc] at h
      exact SC_X10_stormComes_32 hd h
/-! StrayWool$Foresight.telling(III)I -/
noncomputable def S_X1_telling_129 (σ : sw_St) (sx0 : Int32) : Option (Int32 × sw_St) :=
  some (sx0, σ)
theorem SC_X1_telling_129 {E : sw_E} {d : Nat} (hd : 2 ≤ d) {p : Int32 × sw_St} {σ : sw_St} {sx0 : Int32} (h : S_X1_telling_129 σ sx0 = some p) : sw_W E sw_gX m_X1_telling d 129 [] [.int sx0] σ (sw_pI p) := by
  unfold S_X1_telling_129 at h
  cases h
  exact B_X1_telling_129  ⟨_, rfl, rfl, rfl⟩
noncomputable def S_X1_telling_108 (σ : sw_St) (x3 : Int32) (x5 : Int32) (x6 : Int32) (x7 : Int32) : Option (Int32 × sw_St) :=
  if x3 = 0 then (S_X1_telling_129 σ x5) else (if x3 = 1 then (S_X1_telling_129 σ x6) else (S_X1_telling_129 σ x7))
theorem SC_X1_telling_108 {E : sw_E} {d : Nat} (hd : 2 ≤ d) {p : Int32 × sw_St} {σ : sw_St} {x3 : Int32} {x5 : Int32} {x6 : Int32} {x7 : Int32} (h : S_X1_telling_108 σ x3 x5 x6 x7 = some p) : sw_W E sw_gX m_X1_telling d 108 [(3, .int x3), (5, .int x5), (6, .int x6), (7, .int x7)] [] σ (sw_pI p) := by
  unfold S_X1_telling_108 at h
  refine B_X1_telling_108  (fun hc => ?_) (fun hc => ?_)
  · rw [if_neg hc] at h
    refine B_X1_telling_117  (fun hc => ?_) (fun hc => ?_)
    · rw [if_neg hc] at h
      refine B_X1_telling_127  ?_
      exact SC_X1_telling_129 hd h
    · rw [if_pos hc] at h
      refine B_X1_telling_122  ?_
      exact SC_X1_telling_129 hd h
  · rw [if_pos hc] at h
    refine B_X1_telling_112  ?_
    exact SC_X1_telling_129 hd h
noncomputable def S_X1_telling_96 (c20 : sw_St → Int32 → Int32 → Int32 → Int32 → Int32 → Int32 → Int32 → Int32 → Option (Int32 × sw_St)) (c34 : sw_St → Int32 → Int32 → Int32 → Int32 → Int32 → Int32 → Int32 → Int32 → Int32 → Option (Int32 × sw_St)) (σ : sw_St) (x1 : Int32) (x2 : Int32) (x3 : Int32) (x4 : Int32) (x5 : Int32) (x6 : Int32) (x7 : Int32) (x8 : Int32) (x9 : Int32) : Option (Int32 × sw_St) :=
  c34 σ x1 x2 x3 x4 x5 x6 x7 x8 (x9 + 1)
theorem SC_X1_telling_96 {E : sw_E} {d : Nat} (hd : 2 ≤ d) {p : Int32 × sw_St} {c20 : sw_St → Int32 → Int32 → Int32 → Int32 → Int32 → Int32 → Int32 → Int32 → Option (Int32 × sw_St)} {c34 : sw_St → Int32 → Int32 → Int32 → Int32 → Int32 → Int32 → Int32 → Int32 → Int32 → Option (Int32 × sw_St)} (h20 : ∀ (σ : sw_St) (x1 : Int32) (x2 : Int32) (x3 : Int32) (x4 : Int32) (x5 : Int32) (x6 : Int32) (x7 : Int32) (x8 : Int32), c20 σ x1 x2 x3 x4 x5 x6 x7 x8 = some p → sw_W E sw_gX m_X1_telling d 20 [(0, .ref 54), (1, .int x1), (2, .int x2), (3, .int x3), (4, .int x4), (5, .int x5), (6, .int x6), (7, .int x7), (8, .int x8)] [] σ (sw_pI p)) (h34 : ∀ (σ : sw_St) (x1 : Int32) (x2 : Int32) (x3 : Int32) (x4 : Int32) (x5 : Int32) (x6 : Int32) (x7 : Int32) (x8 : Int32) (x9 : Int32), c34 σ x1 x2 x3 x4 x5 x6 x7 x8 x9 = some p → sw_W E sw_gX m_X1_telling d 34 [(0, .ref 54), (1, .int x1), (2, .int x2), (3, .int x3), (4, .int x4), (5, .int x5), (6, .int x6), (7, .int x7), (8, .int x8), (9, .int x9)] [] σ (sw_pI p)) {σ : sw_St} {x1 : Int32} {x2 : Int32} {x3 : Int32} {x4 : Int32} {x5 : Int32} {x6 : Int32} {x7 : Int32} {x8 : Int32} {x9 : Int32} (h : S_X1_telling_96 c20 c34 σ x1 x2 x3 x4 x5 x6 x7 x8 x9 = some p) : sw_W E sw_gX m_X1_telling d 96 [(0, .ref 54), (1, .int x1), (2, .int x2), (3, .int x3), (4, .int x4), (5, .int x5), (6, .int x6), (7, .int x7), (8, .int x8), (9, .int x9)] [] σ (sw_pI p) := by
  unfold S_X1_telling_96 at h
  refine B_X1_telling_96  ?_
  exact h34 _ _ _ _ _ _ _ _ _ _ h
noncomputable def S_X1_telling_84 (c20 : sw_St → Int32 → Int32 → Int32 → Int32 → Int32 → Int32 → Int32 → Int32 → Option (Int32 × sw_St)) (c34 : sw_St → Int32 → Int32 → Int32 → Int32 → Int32 → Int32 → Int32 → Int32 → Int32 → Option (Int32 × sw_St)) (σ : sw_St) (x1 : Int32) (x2 : Int32) (x3 : Int32) (x4 : Int32) (x8 : Int32) (x9 : Int32) (x10 : Int32) : Option (Int32 × sw_St) :=
  S_X1_telling_96 c20 c34 σ x1 x2 x3 x4 x8 x9 x10 x8 x9
theorem SC_X1_telling_84 {E : sw_E} {d : Nat} (hd : 2 ≤ d) {p : Int32 × sw_St} {c20 : sw_St → Int32 → Int32 → Int32 → Int32 → Int32 → Int32 → Int32 → Int32 → Option (Int32 × sw_St)} {c34 : sw_St → Int32 → Int32 → Int32 → Int32 → Int32 → Int32 → Int32 → Int32 → Int32 → Option (Int32 × sw_St)} (h20 : ∀ (σ : sw_St) (x1 : Int32) (x2 : Int32) (x3 : Int32) (x4 : Int32) (x5 : Int32) (x6 : Int32) (x7 : Int32) (x8 : Int32), c20 σ x1 x2 x3 x4 x5 x6 x7 x8 = some p → sw_W E sw_gX m_X1_telling d 20 [(0, .ref 54), (1, .int x1), (2, .int x2), (3, .int x3), (4, .int x4), (5, .int x5), (6, .int x6), (7, .int x7), (8, .int x8)] [] σ (sw_pI p)) (h34 : ∀ (σ : sw_St) (x1 : Int32) (x2 : Int32) (x3 : Int32) (x4 : Int32) (x5 : Int32) (x6 : Int32) (x7 : Int32) (x8 : Int32) (x9 : Int32), c34 σ x1 x2 x3 x4 x5 x6 x7 x8 x9 = some p → sw_W E sw_gX m_X1_telling d 34 [(0, .ref 54), (1, .int x1), (2, .int x2), (3, .int x3), (4, .int x4), (5, .int x5), (6, .int x6), (7, .int x7), (8, .int x8), (9, .int x9)] [] σ (sw_pI p)) {σ : sw_St} {x1 : Int32} {x2 : Int32} {x3 : Int32} {x4 : Int32} {x8 : Int32} {x9 : Int32} {x10 : Int32} (h : S_X1_telling_84 c20 c34 σ x1 x2 x3 x4 x8 x9 x10 = some p) : sw_W E sw_gX m_X1_telling d 84 [(0, .ref 54), (1, .int x1), (2, .int x2), (3, .int x3), (4, .int x4), (8, .int x8), (9, .int x9), (10, .int x10)] [] σ (sw_pI p) := by
  unfold S_X1_telling_84 at h
  refine B_X1_telling_84  ?_
  exact SC_X1_telling_96 hd h20 h34 h
noncomputable def S_X1_telling_69 (c20 : sw_St → Int32 → Int32 → Int32 → Int32 → Int32 → Int32 → Int32 → Int32 → Option (Int32 × sw_St)) (c34 : sw_St → Int32 → Int32 → Int32 → Int32 → Int32 → Int32 → Int32 → Int32 → Int32 → Option (Int32 × sw_St)) (σ : sw_St) (x1 : Int32) (x2 : Int32) (x3 : Int32) (x4 : Int32) (x5 : Int32) (x6 : Int32) (x7 : Int32) (x8 : Int32) (x9 : Int32) (sx0 : Int32) : Option (Int32 × sw_St) :=
  if x7 = (-1) then (S_X1_telling_84 c20 c34 σ x1 x2 x3 x4 x8 x9 sx0) else (if x7 ≤ sx0 then (S_X1_telling_96 c20 c34 σ x1 x2 x3 x4 x5 x6 x7 x8 x9) else (S_X1_telling_84 c20 c34 σ x1 x2 x3 x4 x8 x9 sx0))
theorem SC_X1_telling_69 {E : sw_E} {d : Nat} (hd : 2 ≤ d) {p : Int32 × sw_St} {c20 : sw_St → Int32 → Int32 → Int32 → Int32 → Int32 → Int32 → Int32 → Int32 → Option (Int32 × sw_St)} {c34 : sw_St → Int32 → Int32 → Int32 → Int32 → Int32 → Int32 → Int32 → Int32 → Int32 → Option (Int32 × sw_St)} (h20 : ∀ (σ : sw_St) (x1 : Int32) (x2 : Int32) (x3 : Int32) (x4 : Int32) (x5 : Int32) (x6 : Int32) (x7 : Int32) (x8 : Int32), c20 σ x1 x2 x3 x4 x5 x6 x7 x8 = some p → sw_W E sw_gX m_X1_telling d 20 [(0, .ref 54), (1, .int x1), (2, .int x2), (3, .int x3), (4, .int x4), (5, .int x5), (6, .int x6), (7, .int x7), (8, .int x8)] [] σ (sw_pI p)) (h34 : ∀ (σ : sw_St) (x1 : Int32) (x2 : Int32) (x3 : Int32) (x4 : Int32) (x5 : Int32) (x6 : Int32) (x7 : Int32) (x8 : Int32) (x9 : Int32), c34 σ x1 x2 x3 x4 x5 x6 x7 x8 x9 = some p → sw_W E sw_gX m_X1_telling d 34 [(0, .ref 54), (1, .int x1), (2, .int x2), (3, .int x3), (4, .int x4), (5, .int x5), (6, .int x6), (7, .int x7), (8, .int x8), (9, .int x9)] [] σ (sw_pI p)) {σ : sw_St} {x1 : Int32} {x2 : Int32} {x3 : Int32} {x4 : Int32} {x5 : Int32} {x6 : Int32} {x7 : Int32} {x8 : Int32} {x9 : Int32} {sx0 : Int32} (h : S_X1_telling_69 c20 c34 σ x1 x2 x3 x4 x5 x6 x7 x8 x9 sx0 = some p) : sw_W E sw_gX m_X1_telling d 69 [(0, .ref 54), (1, .int x1), (2, .int x2), (3, .int x3), (4, .int x4), (5, .int x5), (6, .int x6), (7, .int x7), (8, .int x8), (9, .int x9)] [.int sx0] σ (sw_pI p) := by
  unfold S_X1_telling_69 at h
  refine B_X1_telling_69  (fun hc => ?_) (fun hc => ?_)
  · rw [if_pos hc] at h
    exact SC_X1_telling_84 hd h20 h34 h
  · rw [if_neg hc] at h
    refine B_X1_telling_77  (fun hc => ?_) (fun hc => ?_)
    · rw [if_pos hc] at h
      exact SC_X1_telling_96 hd h20 h34 h
    · rw [if_neg hc] at h
      exact SC_X1_telling_84 hd h20 h34 h
noncomputable def S_X1_telling_34 (c20 : sw_St → Int32 → Int32 → Int32 → Int32 → Int32 → Int32 → Int32 → Int32 → Option (Int32 × sw_St)) (c34 : sw_St → Int32 → Int32 → Int32 → Int32 → Int32 → Int32 → Int32 → Int32 → Int32 → Option (Int32 × sw_St)) (σ : sw_St) (x1 : Int32) (x2 : Int32) (x3 : Int32) (x4 : Int32) (x5 : Int32) (x6 : Int32) (x7 : Int32) (x8 : Int32) (x9 : Int32) : Option (Int32 × sw_St) :=
  (σ.2.2 33 0).bind fun w1 => (if sw_isO sw_gX w1 9 = true then (if (σ.1 w1 3) ≤ x9 then (c20 σ x1 x2 x3 x4 x5 x6 x7 (x8 + 1)) else (if x9 = x1 then ((F_X1_mostLeft σ x8 x2).bind fun q4 => S_X1_telling_69 c20 c34 q4.2 x1 x2 x3 x4 x5 x6 x7 x8 x9 q4.1) else ((F_J6_bitCount_0f7a4 σ x2).bind fun q3 => S_X1_telling_69 c20 c34 q3.2 x1 x2 x3 x4 x5 x6 x7 x8 x9 q3.1))) else none)
theorem SC_X1_telling_34 {E : sw_E} {d : Nat} (hd : 2 ≤ d) {p : Int32 × sw_St} {c20 : sw_St → Int32 → Int32 → Int32 → Int32 → Int32 → Int32 → Int32 → Int32 → Option (Int32 × sw_St)} {c34 : sw_St → Int32 → Int32 → Int32 → Int32 → Int32 → Int32 → Int32 → Int32 → Int32 → Option (Int32 × sw_St)} (h20 : ∀ (σ : sw_St) (x1 : Int32) (x2 : Int32) (x3 : Int32) (x4 : Int32) (x5 : Int32) (x6 : Int32) (x7 : Int32) (x8 : Int32), c20 σ x1 x2 x3 x4 x5 x6 x7 x8 = some p → sw_W E sw_gX m_X1_telling d 20 [(0, .ref 54), (1, .int x1), (2, .int x2), (3, .int x3), (4, .int x4), (5, .int x5), (6, .int x6), (7, .int x7), (8, .int x8)] [] σ (sw_pI p)) (h34 : ∀ (σ : sw_St) (x1 : Int32) (x2 : Int32) (x3 : Int32) (x4 : Int32) (x5 : Int32) (x6 : Int32) (x7 : Int32) (x8 : Int32) (x9 : Int32), c34 σ x1 x2 x3 x4 x5 x6 x7 x8 x9 = some p → sw_W E sw_gX m_X1_telling d 34 [(0, .ref 54), (1, .int x1), (2, .int x2), (3, .int x3), (4, .int x4), (5, .int x5), (6, .int x6), (7, .int x7), (8, .int x8), (9, .int x9)] [] σ (sw_pI p)) {σ : sw_St} {x1 : Int32} {x2 : Int32} {x3 : Int32} {x4 : Int32} {x5 : Int32} {x6 : Int32} {x7 : Int32} {x8 : Int32} {x9 : Int32} (h : S_X1_telling_34 c20 c34 σ x1 x2 x3 x4 x5 x6 x7 x8 x9 = some p) : sw_W E sw_gX m_X1_telling d 34 [(0, .ref 54), (1, .int x1), (2, .int x2), (3, .int x3), (4, .int x4), (5, .int x5), (6, .int x6), (7, .int x7), (8, .int x8), (9, .int x9)] [] σ (sw_pI p) := by
  unfold S_X1_telling_34 at h
  obtain ⟨w1, ow1, h⟩ := sw_bnd h
  obtain ⟨o2, h⟩ := sw_ifs h
  refine B_X1_telling_34 ow1 o2 (fun hc => ?_) (fun hc => ?_)
  · rw [if_pos hc] at h
    refine B_X1_telling_102  ?_
    exact h20 _ _ _ _ _ _ _ _ _ h
  · rw [if_neg hc] at h
    refine B_X1_telling_49  (fun hc => ?_) (fun hc => ?_)
    · rw [if_neg hc] at h
      obtain ⟨q3, hq, h⟩ := sw_bnd h
      refine B_X1_telling_65  (FC_J6_bitCount_0f7a4 (Nat.le_refl _) hq) (Nat.lt_of_lt_of_le (by decide) hd) (fun v s hvs => ?_)
      obtain ⟨hv1, hv2⟩ := hvs; subst hv1; subst hv2
      exact SC_X1_telling_69 hd h20 h34 h
    · rw [if_pos hc] at h
      obtain ⟨q4, hq, h⟩ := sw_bnd h
      refine B_X1_telling_55  (FC_X1_mostLeft (Nat.le_refl _) hq) (Nat.lt_of_lt_of_le (by decide) hd) (fun v s hvs => ?_)
      obtain ⟨hv1, hv2⟩ := hvs; subst hv1; subst hv2
      refine B_X1_telling_62  ?_
      exact SC_X1_telling_69 hd h20 h34 h
noncomputable def L_X1_telling_34 (c20 : sw_St → Int32 → Int32 → Int32 → Int32 → Int32 → Int32 → Int32 → Int32 → Option (Int32 × sw_St)) : Nat → sw_St → Int32 → Int32 → Int32 → Int32 → Int32 → Int32 → Int32 → Int32 → Int32 → Option (Int32 × sw_St)
  | 0, _, _, _, _, _, _, _, _, _, _ => none
  | k + 1, σ, x1, x2, x3, x4, x5, x6, x7, x8, x9 => S_X1_telling_34 c20 (fun σ x1 x2 x3 x4 x5 x6 x7 x8 x9 => L_X1_telling_34 c20 k σ x1 x2 x3 x4 x5 x6 x7 x8 x9) σ x1 x2 x3 x4 x5 x6 x7 x8 x9
theorem LC_X1_telling_34 {E : sw_E} {d : Nat} (hd : 2 ≤ d) {p : Int32 × sw_St} {c20 : sw_St → Int32 → Int32 → Int32 → Int32 → Int32 → Int32 → Int32 → Int32 → Option (Int32 × sw_St)} (h20 : ∀ (σ : sw_St) (x1 : Int32) (x2 : Int32) (x3 : Int32) (x4 : Int32) (x5 : Int32) (x6 : Int32) (x7 : Int32) (x8 : Int32), c20 σ x1 x2 x3 x4 x5 x6 x7 x8 = some p → sw_W E sw_gX m_X1_telling d 20 [(0, .ref 54), (1, .int x1), (2, .int x2), (3, .int x3), (4, .int x4), (5, .int x5), (6, .int x6), (7, .int x7), (8, .int x8)] [] σ (sw_pI p)) : ∀ (k : Nat) (σ : sw_St) (x1 : Int32) (x2 : Int32) (x3 : Int32) (x4 : Int32) (x5 : Int32) (x6 : Int32) (x7 : Int32) (x8 : Int32) (x9 : Int32), L_X1_telling_34 c20 k σ x1 x2 x3 x4 x5 x6 x7 x8 x9 = some p → sw_W E sw_gX m_X1_telling d 34 [(0, .ref 54), (1, .int x1), (2, .int x2), (3, .int x3), (4, .int x4), (5, .int x5), (6, .int x6), (7, .int x7), (8, .int x8), (9, .int x9)] [] σ (sw_pI p) := by
  intro k
  induction k with
  | zero => intro σ x1 x2 x3 x4 x5 x6 x7 x8 x9 h; cases h
  | succ k ih => intro σ x1 x2 x3 x4 x5 x6 x7 x8 x9 h; exact SC_X1_telling_34 hd h20 ih h
noncomputable def S_X1_telling_20 (c20 : sw_St → Int32 → Int32 → Int32 → Int32 → Int32 → Int32 → Int32 → Int32 → Option (Int32 × sw_St)) (σ : sw_St) (x1 : Int32) (x2 : Int32) (x3 : Int32) (x4 : Int32) (x5 : Int32) (x6 : Int32) (x7 : Int32) (x8 : Int32) : Option (Int32 × sw_St) :=
  if x4 < x8 then (S_X1_telling_108 σ x3 x5 x6 x7) else (if x2 = 0 then (S_X1_telling_108 σ x3 x5 x6 x7) else (L_X1_telling_34 c20 sw_fuel σ x1 x2 x3 x4 x5 x6 x7 x8 0))
theorem SC_X1_telling_20 {E : sw_E} {d : Nat} (hd : 2 ≤ d) {p : Int32 × sw_St} {c20 : sw_St → Int32 → Int32 → Int32 → Int32 → Int32 → Int32 → Int32 → Int32 → Option (Int32 × sw_St)} (h20 : ∀ (σ : sw_St) (x1 : Int32) (x2 : Int32) (x3 : Int32) (x4 : Int32) (x5 : Int32) (x6 : Int32) (x7 : Int32) (x8 : Int32), c20 σ x1 x2 x3 x4 x5 x6 x7 x8 = some p → sw_W E sw_gX m_X1_telling d 20 [(0, .ref 54), (1, .int x1), (2, .int x2), (3, .int x3), (4, .int x4), (5, .int x5), (6, .int x6), (7, .int x7), (8, .int x8)] [] σ (sw_pI p)) {σ : sw_St} {x1 : Int32} {x2 : Int32} {x3 : Int32} {x4 : Int32} {x5 : Int32} {x6 : Int32} {x7 : Int32} {x8 : Int32} (h : S_X1_telling_20 c20 σ x1 x2 x3 x4 x5 x6 x7 x8 = some p) : sw_W E sw_gX m_X1_telling d 20 [(0, .ref 54), (1, .int x1), (2, .int x2), (3, .int x3), (4, .int x4), (5, .int x5), (6, .int x6), (7, .int x7), (8, .int x8)] [] σ (sw_pI p) := by
  unfold S_X1_telling_20 at h
  refine B_X1_telling_20  (fun hc => ?_) (fun hc => ?_)
  · rw [if_pos hc] at h
    exact SC_X1_telling_108 hd h
  · rw [if_neg hc] at h
    refine B_X1_telling_27  (fun hc => ?_) (fun hc => ?_)
    · rw [if_pos hc] at h
      exact SC_X1_telling_108 hd h
    · rw [if_neg hc] at h
      refine B_X1_telling_31  ?_
      exact LC_X1_telling_34 hd h20 _ _ _ _ _ _ _ _ _ _ _ h
noncomputable def L_X1_telling_20 : Nat → sw_St → Int32 → Int32 → Int32 → Int32 → Int32 → Int32 → Int32 → Int32 → Option (Int32 × sw_St)
  | 0, _, _, _, _, _, _, _, _, _ => none
  | k + 1, σ, x1, x2, x3, x4, x5, x6, x7, x8 => S_X1_telling_20 (fun σ x1 x2 x3 x4 x5 x6 x7 x8 => L_X1_telling_20 k σ x1 x2 x3 x4 x5 x6 x7 x8) σ x1 x2 x3 x4 x5 x6 x7 x8
theorem LC_X1_telling_20 {E : sw_E} {d : Nat} (hd : 2 ≤ d) {p : Int32 × sw_St} : ∀ (k : Nat) (σ : sw_St) (x1 : Int32) (x2 : Int32) (x3 : Int32) (x4 : Int32) (x5 : Int32) (x6 : Int32) (x7 : Int32) (x8 : Int32), L_X1_telling_20 k σ x1 x2 x3 x4 x5 x6 x7 x8 = some p → sw_W E sw_gX m_X1_telling d 20 [(0, .ref 54), (1, .int x1), (2, .int x2), (3, .int x3), (4, .int x4), (5, .int x5), (6, .int x6), (7, .int x7), (8, .int x8)] [] σ (sw_pI p) := by
  intro k
  induction k with
  | zero => intro σ x1 x2 x3 x4 x5 x6 x7 x8 h; cases h
  | succ k ih => intro σ x1 x2 x3 x4 x5 x6 x7 x8 h; exact SC_X1_telling_20 hd ih h
noncomputable def F_X1_telling (σ : sw_St) (x1 : Int32) (x2 : Int32) (x3 : Int32) : Option (Int32 × sw_St) :=
  (F_X1_daysAtMost σ 30).bind fun q1 => L_X1_telling_20 sw_fuel q1.2 x1 x2 x3 q1.1 (-1) (-1) (-1) 1
theorem FC_X1_telling {E : sw_E} {d : Nat} (hd : 2 ≤ d) {p : Int32 × sw_St} {σ : sw_St} {x1 : Int32} {x2 : Int32} {x3 : Int32} (h : F_X1_telling σ x1 x2 x3 = some p) : sw_KI E sw_gX m_X1_telling d [.ref 54, .int x1, .int x2, .int x3] σ (fun v s => v = p.1 ∧ s = p.2) := by
  unfold F_X1_telling at h
  refine sw_K.of (by decide +kernel) rfl (Nat.le_of_ble_eq_true rfl) ?_
  show sw_W E sw_gX m_X1_telling d 0 [(0, .ref 54), (1, .int x1), (2, .int x2), (3, .int x3)] [] σ (sw_pI p)
  obtain ⟨q1, hq, h⟩ := sw_bnd h
  refine B_X1_telling_0  (FC_X1_daysAtMost (Nat.le_refl _) hq) (Nat.lt_of_lt_of_le (by decide) hd) (fun v s hvs => ?_)
  obtain ⟨hv1, hv2⟩ := hvs; subst hv1; subst hv2
  refine B_X1_telling_6  ?_
  exact LC_X1_telling_20 hd _ _ _ _ _ _ _ _ _ _ h
/-! StrayWool$Parser.shutStatement()Z -/
noncomputable def F_X3_shutStatement (σ : sw_St) : Option (Int32 × sw_St) :=
  (F_X6_advance σ ).bind fun q1 => (q1.2.2.2 32 1).bind fun w2 => (if sw_isO sw_gX w2 9 = true then ((F_X6_takeNumber q1.2 0 ((q1.2.1 w2 2) - 1)).bind fun q4 => if q4.1 = (-1) then (some (0, q4.2)) else ((q4.2.2.2 32 1).bind fun w5 => (if sw_isO sw_gX w5 9 = true then (if (((q4.2.1 w5 5) >>> (q4.1 &&& 31)) &&& 1) = 0 then ((F_X6_fail q4.2 2 (q1.2.1 2 3)).bind fun q10 => if q10.1 = 0 ∨ q10.1 = 1 then some (q10.1, q10.2) else none) else ((q4.2.2.2 32 1).bind fun w7 => (if sw_isO sw_gX w7 9 = true then (if sw_isO sw_gX w7 9 = true then (some (1, (sw_uI q4.2 w7 5 ((q4.2.1 w7 5) ^^^ ((1 : Int32) <<< (q4.1 &&& 31)))))) else none) else none))) else none))) else none)
theorem FC_X3_shutStatement {E : sw_E} {d : Nat} (hd : 7 ≤ d) {p : Int32 × sw_St} {σ : sw_St} (h : F_X3_shutStatement σ  = some p) : sw_KI E sw_gX m_X3_shutStatement d [.ref 32] σ (fun v s => v = p.1 ∧ s = p.2) := by
  unfold F_X3_shutStatement at h
  refine sw_K.of (by decide +kernel) rfl (Nat.le_of_ble_eq_true rfl) ?_
  show sw_W E sw_gX m_X3_shutStatement d 0 [(0, .ref 32)] [] σ (sw_pI p)
  obtain ⟨q1, hq, h⟩ := sw_bnd h
  refine B_X3_shutStatement_0  (FC_X6_advance (Nat.le_refl _) hq) (Nat.lt_of_lt_of_le (by decide) hd) (fun s hvs => ?_)
  subst hvs
  obtain ⟨w2, ow2, h⟩ := sw_bnd h
  obtain ⟨o3, h⟩ := sw_ifs h
  obtain ⟨q4, hq, h⟩ := sw_bnd h
  refine B_X3_shutStatement_7 ow2 o3 (FC_X6_takeNumber (Nat.le_refl _) hq) (Nat.lt_of_lt_of_le (by decide) hd) (fun v s hvs => ?_)
  obtain ⟨hv1, hv2⟩ := hvs; subst hv1; subst hv2
  refine B_X3_shutStatement_32  (fun hc => ?_) (fun hc => ?_)
  · rw [if_neg hc] at h
    obtain ⟨w5, ow5, h⟩ := sw_bnd h
    obtain ⟨o6, h⟩ := sw_ifs h
    refine B_X3_shutStatement_40 ow5 o6 (fun hc => ?_) (fun hc => ?_)
    · rw [if_neg hc] at h
      obtain ⟨w7, ow7, h⟩ := sw_bnd h
      obtain ⟨o8, h⟩ := sw_ifs h
      obtain ⟨o9, h⟩ := sw_ifs h
      cases h
      exact B_X3_shutStatement_64 ow7 o8 o9 ⟨_, rfl, rfl, rfl⟩
    · rw [if_pos hc] at h
      obtain ⟨q10, hq, h⟩ := sw_bnd h
      refine B_X3_shutStatement_54  (FC_X6_fail (Nat.le_refl _) hq) (Nat.lt_of_lt_of_le (by decide) hd) (fun v s hvs => ?_)
      obtain ⟨hv1, hv2⟩ := hvs; subst hv1; subst hv2
      obtain ⟨hz, h⟩ := sw_ifs h
      cases h
      exact B_X3_shutStatement_63  hz ⟨_, rfl, rfl, rfl⟩
  · rw [if_pos hc] at h
    cases h
    exact B_X3_shutStatement_38  ⟨_, rfl, rfl, rfl⟩
/-! StrayWool$Parser.beginFormula(I)Z -/
noncomputable def F_X3_beginFormula (σ : sw_St) (x1 : Int32) : Option (Int32 × sw_St) :=
  (σ.2.2 32 1).bind fun w1 => (if sw_isO sw_gX w1 9 = true then (if (((σ.1 w1 6) >>> (x1 &&& 31)) &&& 1) = 1 then ((F_X6_fail σ 5 (σ.1 2 3)).bind fun q15 => if q15.1 = 0 ∨ q15.1 = 1 then some (q15.1, q15.2) else none) else ((σ.2.2 32 1).bind fun w3 => (if sw_isO sw_gX w3 9 = true then (if sw_isO sw_gX w3 9 = true then ((F_X6_advance (sw_uI σ w3 6 ((σ.1 w3 6) ||| ((1 : Int32) <<< (x1 &&& 31)))) ).bind fun q6 => (q6.2.2.2 32 1).bind fun w7 => (if sw_isO sw_gX w7 9 = true then ((q6.2.2.2 32 1).bind fun w9 => (if sw_isO sw_gX w9 9 = true then (((some (w7 + 9))).bind fun w11 => (if sw_isO sw_gX w11 0 = true then (if sw_isA sw_gX (w9 + 11) 0 = true then (if sw_inb x1 (sw_ln sw_gX (w9 + 11)) = true then (some (1, (sw_uI (sw_uI (sw_uR q6.2 32 2 (some (w7 + 9))) 32 3 x1) (w9 + 11) x1.toNatClampNeg ((sw_uI (sw_uR q6.2 32 2 (some (w7 + 9))) 32 3 x1).1 w11 1)))) else none) else none) else none)) else none)) else none)) else none) else none))) else none)
theorem FC_X3_beginFormula {E : sw_E} {d : Nat} (hd : 6 ≤ d) {p : Int32 × sw_St} {σ : sw_St} {x1 : Int32} (h : F_X3_beginFormula σ x1 = some p) : sw_KI E sw_gX m_X3_beginFormula d [.ref 32, .int x1] σ (fun v s => v = p.1 ∧ s = p.2) := by
  unfold F_X3_beginFormula at h
  refine sw_K.of (by decide +kernel) rfl (Nat.le_of_ble_eq_true rfl) ?_
  show sw_W E sw_gX m_X3_beginFormula d 0 [(0, .ref 32), (1, .int x1)] [] σ (sw_pI p)
  obtain ⟨w1, ow1, h⟩ := sw_bnd h
  obtain ⟨o2, h⟩ := sw_ifs h
  refine B_X3_beginFormula_0 ow1 o2 (fun hc => ?_) (fun hc => ?_)
  · rw [if_neg hc] at h
    obtain ⟨w3, ow3, h⟩ := sw_bnd h
    obtain ⟨o4, h⟩ := sw_ifs h
    obtain ⟨o5, h⟩ := sw_ifs h
    obtain ⟨q6, hq, h⟩ := sw_bnd h
    refine B_X3_beginFormula_31 ow3 o4 o5 (FC_X6_advance (Nat.le_refl _) hq) (Nat.lt_of_lt_of_le (by decide) hd) (fun s hvs => ?_)
    subst hvs
    obtain ⟨w7, ow7, h⟩ := sw_bnd h
    obtain ⟨o8, h⟩ := sw_ifs h
    obtain ⟨w9, ow9, h⟩ := sw_bnd h
    obtain ⟨o10, h⟩ := sw_ifs h
    obtain ⟨w11, ow11, h⟩ := sw_bnd h
    obtain ⟨o12, h⟩ := sw_ifs h
    obtain ⟨o13, h⟩ := sw_ifs h
    obtain ⟨o14, h⟩ := sw_ifs h
    cases h
    exact B_X3_beginFormula_53 ow7 o8 ow9 o10 ow11 o12 o13 (sw_inb_sp o14) ⟨_, rfl, rfl, rfl⟩
  · rw [if_pos hc] at h
    obtain ⟨q15, hq, h⟩ := sw_bnd h
    refine B_X3_beginFormula_15  (FC_X6_fail (Nat.le_refl _) hq) (Nat.lt_of_lt_of_le (by decide) hd) (fun v s hvs => ?_)
    obtain ⟨hv1, hv2⟩ := hvs; subst hv1; subst hv2
    obtain ⟨hz, h⟩ := sw_ifs h
    cases h
    exact B_X3_beginFormula_30  hz ⟨_, rfl, rfl, rfl⟩
/-! StrayWool$Parser.stormStatement()Z -/
noncomputable def F_X3_stormStatement (σ : sw_St) : Option (Int32 × sw_St) :=
  (F_X6_advance σ ).bind fun q1 => (F_X6_takeNumber q1.2 0 100).bind fun q2 => if q2.1 = (-1) then (some (0, q2.2)) else ((q2.2.2.2 32 1).bind fun w3 => (if sw_isO sw_gX w3 9 = true then (some (1, (sw_uI q2.2 w3 4 q2.1))) else none))
theorem FC_X3_stormStatement {E : sw_E} {d : Nat} (hd : 7 ≤ d) {p : Int32 × sw_St} {σ : sw_St} (h : F_X3_stormStatement σ  = some p) : sw_KI E sw_gX m_X3_stormStatement d [.ref 32] σ (fun v s => v = p.1 ∧ s = p.2) := by
  unfold F_X3_stormStatement at h
  refine sw_K.of (by decide +kernel) rfl (Nat.le_of_ble_eq_true rfl) ?_
  show sw_W E sw_gX m_X3_stormStatement d 0 [(0, .ref 32)] [] σ (sw_pI p)
  obtain ⟨q1, hq, h⟩ := sw_bnd h
  refine B_X3_stormStatement_0  (FC_X6_advance (Nat.le_refl _) hq) (Nat.lt_of_lt_of_le (by decide) hd) (fun s hvs => ?_)
  subst hvs
  obtain ⟨q2, hq, h⟩ := sw_bnd h
  refine B_X3_stormStatement_7  (FC_X6_takeNumber (Nat.le_refl _) hq) (Nat.lt_of_lt_of_le (by decide) hd) (fun v s hvs => ?_)
  obtain ⟨hv1, hv2⟩ := hvs; subst hv1; subst hv2
  refine B_X3_stormStatement_17  (fun hc => ?_) (fun hc => ?_)
  · rw [if_neg hc] at h
    obtain ⟨w3, ow3, h⟩ := sw_bnd h
    obtain ⟨o4, h⟩ := sw_ifs h
    cases h
    exact B_X3_stormStatement_25 ow3 o4 ⟨_, rfl, rfl, rfl⟩
  · rw [if_pos hc] at h
    cases h
    exact B_X3_stormStatement_23  ⟨_, rfl, rfl, rfl⟩
/-! StrayWool$Parser.newName()I -/
noncomputable def S_X3_newName_57 (σ : sw_St) (x2 : Int32) : Option (Int32 × sw_St) :=
  some (x2, σ)
theorem SC_X3_newName_57 {E : sw_E} {d : Nat} (hd : 7 ≤ d) {p : Int32 × sw_St} {σ : sw_St} {x2 : Int32} (h : S_X3_newName_57 σ x2 = some p) : sw_W E sw_gX m_X3_newName d 57 [(2, .int x2)] [] σ (sw_pI p) := by
  unfold S_X3_newName_57 at h
  cases h
  exact B_X3_newName_57  ⟨_, rfl, rfl, rfl⟩
noncomputable def S_X3_newName_45 (σ : sw_St) (x1 : Int32) : Option (Int32 × sw_St) :=
  (F_X6_fail σ 3 x1).bind fun q1 => some ((-1), q1.2)
theorem SC_X3_newName_45 {E : sw_E} {d : Nat} (hd : 7 ≤ d) {p : Int32 × sw_St} {σ : sw_St} {x1 : Int32} (h : S_X3_newName_45 σ x1 = some p) : sw_W E sw_gX m_X3_newName d 45 [(0, .ref 32), (1, .int x1)] [] σ (sw_pI p) := by
  unfold S_X3_newName_45 at h
  obtain ⟨q1, hq, h⟩ := sw_bnd h
  refine B_X3_newName_45  (FC_X6_fail (Nat.le_refl _) hq) (Nat.lt_of_lt_of_le (by decide) hd) (fun v s hvs => ?_)
  obtain ⟨hv1, hv2⟩ := hvs; subst hv1; subst hv2
  cases h
  exact B_X3_newName_54  ⟨_, rfl, rfl, rfl⟩
noncomputable def F_X3_newName (σ : sw_St) : Option (Int32 × sw_St) :=
  (F_X6_takeName σ ).bind fun q1 => if q1.1 = (-1) then (S_X3_newName_57 q1.2 q1.1) else ((q1.2.2.2 32 1).bind fun w2 => (if sw_isO sw_gX w2 9 = true then ((F_X9_fieldNamed q1.2 w2 q1.1).bind fun q3 => if q3.1 = (-1) then ((q3.2.2.2 32 1).bind fun w5 => (if sw_isO sw_gX w5 9 = true then ((F_X9_sheepNamed q3.2 w5 q1.1).bind fun q6 => if q6.1 = (-1) then (S_X3_newName_57 q6.2 q1.1) else (S_X3_newName_45 q6.2 (σ.1 2 3))) else none)) else (S_X3_newName_45 q3.2 (σ.1 2 3))) else none))
theorem FC_X3_newName {E : sw_E} {d : Nat} (hd : 7 ≤ d) {p : Int32 × sw_St} {σ : sw_St} (h : F_X3_newName σ  = some p) : sw_KI E sw_gX m_X3_newName d [.ref 32] σ (fun v s => v = p.1 ∧ s = p.2) := by
  unfold F_X3_newName at h
  refine sw_K.of (by decide +kernel) rfl (Nat.le_of_ble_eq_true rfl) ?_
  show sw_W E sw_gX m_X3_newName d 0 [(0, .ref 32)] [] σ (sw_pI p)
  obtain ⟨q1, hq, h⟩ := sw_bnd h
  refine B_X3_newName_0  (FC_X6_takeName (Nat.le_refl _) hq) (Nat.lt_of_lt_of_le (by decide) hd) (fun v s hvs => ?_)
  obtain ⟨hv1, hv2⟩ := hvs; subst hv1; subst hv2
  refine B_X3_newName_15  (fun hc => ?_) (fun hc => ?_)
  · rw [if_pos hc] at h
    exact SC_X3_newName_57 hd h
  · rw [if_neg hc] at h
    obtain ⟨w2, ow2, h⟩ := sw_bnd h
    obtain ⟨o4, h⟩ := sw_ifs h
    obtain ⟨q3, hq, h⟩ := sw_bnd h
    refine B_X3_newName_21 ow2 (FC_X9_fieldNamed (Nat.le_refl _) hq) (Nat.lt_of_lt_of_le (by decide) hd) (fun v s hvs => ?_) o4
    obtain ⟨hv1, hv2⟩ := hvs; subst hv1; subst hv2
    refine B_X3_newName_29  (fun hc => ?_) (fun hc => ?_)
    · rw [if_neg hc] at h
      exact SC_X3_newName_45 hd h
    · rw [if_pos hc] at h
      obtain ⟨w5, ow5, h⟩ := sw_bnd h
      obtain ⟨o7, h⟩ := sw_ifs h
      obtain ⟨q6, hq, h⟩ := sw_bnd h
      refine B_X3_newName_33 ow5 (FC_X9_sheepNamed (Nat.le_refl _) hq) (Nat.lt_of_lt_of_le (by decide) hd) (fun v s hvs => ?_) o7
      obtain ⟨hv1, hv2⟩ := hvs; subst hv1; subst hv2
      refine B_X3_newName_41  (fun hc => ?_) (fun hc => ?_)
      · rw [if_pos hc] at h
        exact SC_X3_newName_57 hd h
      · rw [if_neg hc] at h
        exact SC_X3_newName_45 hd h
/-! StrayWool$Parser.knownField(I)I -/
noncomputable def S_X3_knownField_45 (σ : sw_St) (x2 : Int32) : Option (Int32 × sw_St) :=
  (F_X6_fail σ 3 x2).bind fun q1 => some ((-1), q1.2)
theorem SC_X3_knownField_45 {E : sw_E} {d : Nat} (hd : 7 ≤ d) {p : Int32 × sw_St} {σ : sw_St} {x2 : Int32} (h : S_X3_knownField_45 σ x2 = some p) : sw_W E sw_gX m_X3_knownField d 45 [(0, .ref 32), (2, .int x2)] [] σ (sw_pI p) := by
  unfold S_X3_knownField_45 at h
  obtain ⟨q1, hq, h⟩ := sw_bnd h
  refine B_X3_knownField_45  (FC_X6_fail (Nat.le_refl _) hq) (Nat.lt_of_lt_of_le (by decide) hd) (fun v s hvs => ?_)
  obtain ⟨hv1, hv2⟩ := hvs; subst hv1; subst hv2
  cases h
  exact B_X3_knownField_54  ⟨_, rfl, rfl, rfl⟩
noncomputable def F_X3_knownField (σ : sw_St) (x1 : Int32) : Option (Int32 × sw_St) :=
  (F_X6_takeName σ ).bind fun q1 => if q1.1 = (-1) then (some ((-1), q1.2)) else ((q1.2.2.2 32 1).bind fun w2 => (if sw_isO sw_gX w2 9 = true then ((F_X9_fieldNamed q1.2 w2 q1.1).bind fun q3 => if q3.1 = (-1) then (S_X3_knownField_45 q3.2 (σ.1 2 3)) else (if q3.1 = x1 then (S_X3_knownField_45 q3.2 (σ.1 2 3)) else (some (q3.1, q3.2)))) else none))
theorem FC_X3_knownField {E : sw_E} {d : Nat} (hd : 7 ≤ d) {p : Int32 × sw_St} {σ : sw_St} {x1 : Int32} (h : F_X3_knownField σ x1 = some p) : sw_KI E sw_gX m_X3_knownField d [.ref 32, .int x1] σ (fun v s => v = p.1 ∧ s = p.2) := by
  unfold F_X3_knownField at h
  refine sw_K.of (by decide +kernel) rfl (Nat.le_of_ble_eq_true rfl) ?_
  show sw_W E sw_gX m_X3_knownField d 0 [(0, .ref 32), (1, .int x1)] [] σ (sw_pI p)
  obtain ⟨q1, hq, h⟩ := sw_bnd h
  refine B_X3_knownField_0  (FC_X6_takeName (Nat.le_refl _) hq) (Nat.lt_of_lt_of_le (by decide) hd) (fun v s hvs => ?_)
  obtain ⟨hv1, hv2⟩ := hvs; subst hv1; subst hv2
  refine B_X3_knownField_15  (fun hc => ?_) (fun hc => ?_)
  · rw [if_neg hc] at h
    obtain ⟨w2, ow2, h⟩ := sw_bnd h
    obtain ⟨o4, h⟩ := sw_ifs h
    obtain ⟨q3, hq, h⟩ := sw_bnd h
    refine B_X3_knownField_23 ow2 (FC_X9_fieldNamed (Nat.le_refl _) hq) (Nat.lt_of_lt_of_le (by decide) hd) (fun v s hvs => ?_) o4
    obtain ⟨hv1, hv2⟩ := hvs; subst hv1; subst hv2
    refine B_X3_knownField_31  (fun hc => ?_) (fun hc => ?_)
    · rw [if_pos hc] at h
      exact SC_X3_knownField_45 hd h
    · rw [if_neg hc] at h
      refine B_X3_knownField_39  (fun hc => ?_) (fun hc => ?_)
      · rw [if_neg hc] at h
        cases h
        exact B_X3_knownField_57  ⟨_, rfl, rfl, rfl⟩
      · rw [if_pos hc] at h
        exact SC_X3_knownField_45 hd h
  · rw [if_pos hc] at h
    cases h
    exact B_X3_knownField_21  ⟨_, rfl, rfl, rfl⟩
/-! StrayWool$Parser.opens(I)Z -/
noncomputable def F_X3_opens (σ : sw_St) (x1 : Int32) : Option (Int32 × sw_St) :=
  if x1 < 6 then ((F_X6_advance σ ).bind fun q1 => some (1, q1.2)) else ((F_X6_fail σ 4 (σ.1 2 3)).bind fun q2 => if q2.1 = 0 ∨ q2.1 = 1 then some (q2.1, q2.2) else none)
theorem FC_X3_opens {E : sw_E} {d : Nat} (hd : 6 ≤ d) {p : Int32 × sw_St} {σ : sw_St} {x1 : Int32} (h : F_X3_opens σ x1 = some p) : sw_KI E sw_gX m_X3_opens d [.ref 32, .int x1] σ (fun v s => v = p.1 ∧ s = p.2) := by
  unfold F_X3_opens at h
  refine sw_K.of (by decide +kernel) rfl (Nat.le_of_ble_eq_true rfl) ?_
  show sw_W E sw_gX m_X3_opens d 0 [(0, .ref 32), (1, .int x1)] [] σ (sw_pI p)
  refine B_X3_opens_0  (fun hc => ?_) (fun hc => ?_)
  · rw [if_pos hc] at h
    obtain ⟨q1, hq, h⟩ := sw_bnd h
    refine B_X3_opens_22  (FC_X6_advance (Nat.le_refl _) hq) (Nat.lt_of_lt_of_le (by decide) hd) (fun s hvs => ?_)
    subst hvs
    cases h
    exact B_X3_opens_29  ⟨_, rfl, rfl, rfl⟩
  · rw [if_neg hc] at h
    obtain ⟨q2, hq, h⟩ := sw_bnd h
    refine B_X3_opens_6  (FC_X6_fail (Nat.le_refl _) hq) (Nat.lt_of_lt_of_le (by decide) hd) (fun v s hvs => ?_)
    obtain ⟨hv1, hv2⟩ := hvs; subst hv1; subst hv2
    obtain ⟨hz, h⟩ := sw_ifs h
    cases h
    exact B_X3_opens_21  hz ⟨_, rfl, rfl, rfl⟩
/-! StrayWool$Reader.open([BI)V -/
noncomputable def F_X6_open (σ : sw_St) (o1 : Nat) (x2 : Int32) : Option (Unit × sw_St) :=
  if (sw_isA sw_gX o1 0 || sw_isA sw_gX o1 1 || sw_isA sw_gX o1 2 || sw_isA sw_gX o1 3) = true then ((F_J9_min_7cf53 (sw_uR σ 2 0 (some o1)) x2 (nI (sw_ln sw_gX o1))).bind fun q2 => (F_X6_advance (sw_uI (sw_uI (sw_uI (sw_uI q2.2 2 1 q2.1) 2 4 0) 2 5 0) 2 6 (-1)) ).bind fun q3 => some ((), q3.2)) else none
theorem FC_X6_open {E : sw_E} {d : Nat} (hd : 6 ≤ d) {p : Unit × sw_St} {σ : sw_St} {o1 : Nat} {x2 : Int32} (h : F_X6_open σ o1 x2 = some p) : sw_KV E sw_gX m_X6_open d [.ref 2, .ref o1, .int x2] σ (fun s => s = p.2) := by
  unfold F_X6_open at h
  refine sw_K.of (by decide +kernel) rfl (Nat.le_of_ble_eq_true rfl) ?_
  show sw_W E sw_gX m_X6_open d 0 [(0, .ref 2), (1, .ref o1), (2, .int x2)] [] σ (sw_pV p)
  obtain ⟨o1, h⟩ := sw_ifs h
  obtain ⟨q2, hq, h⟩ := sw_bnd h
  refine B_X6_open_0 o1 (FC_J9_min_7cf53 (Nat.le_refl _) hq) (Nat.lt_of_lt_of_le (by decide) hd) (fun v s hvs => ?_)
  obtain ⟨hv1, hv2⟩ := hvs; subst hv1; subst hv2
  obtain ⟨q3, hq, h⟩ := sw_bnd h
  refine B_X6_open_12  (FC_X6_advance (Nat.le_refl _) hq) (Nat.lt_of_lt_of_le (by decide) hd) (fun s hvs => ?_)
  subst hvs
  cases h
  exact B_X6_open_34  ⟨rfl, rfl⟩
/-! StrayWool$Reckoner.run(LStrayWool$Upland;I)I -/
noncomputable def S_X7_run_67 (σ : sw_St) (x3 : Int32) (sx0 : Int32) : Option (Int32 × sw_St) :=
  some (sx0, (sw_uI σ 34 2 x3))
theorem SC_X7_run_67 {E : sw_E} {d : Nat} (hd : 2 ≤ d) {p : Int32 × sw_St} {σ : sw_St} {x3 : Int32} {sx0 : Int32} (h : S_X7_run_67 σ x3 sx0 = some p) : sw_W E sw_gX m_X7_run d 67 [(0, .ref 34), (3, .int x3)] [.int sx0] σ (sw_pI p) := by
  unfold S_X7_run_67 at h
  cases h
  exact B_X7_run_67  ⟨_, rfl, rfl, rfl⟩
noncomputable def S_X7_run_13 (c13 : sw_St → Nat → Int32 → Int32 → Int32 → Option (Int32 × sw_St)) (σ : sw_St) (o1 : Nat) (x2 : Int32) (x3 : Int32) (x4 : Int32) : Option (Int32 × sw_St) :=
  if sw_isO sw_gX o1 9 = true then (if sw_isA sw_gX (o1 + 12) 0 = true then (if sw_inb x2 (sw_ln sw_gX (o1 + 12)) = true then (if (σ.1 (o1 + 12) x2.toNatClampNeg) ≤ x4 then (if (σ.1 34 2) ≤ x3 then (S_X7_run_67 σ x3 0) else (if sw_inb ((σ.1 34 2) - 1) 256 = true then (S_X7_run_67 σ x3 (σ.1 36 (((σ.1 34 2) - 1).toNatClampNeg))) else none)) else (if sw_isO sw_gX o1 9 = true then (if sw_isO sw_gX (o1 + 9) 0 = true then (if sw_isA sw_gX ((o1 + 9) + 1) 0 = true then (if sw_inb x4 (sw_ln sw_gX ((o1 + 9) + 1)) = true then ((F_X7_step σ (σ.1 ((o1 + 9) + 1) x4.toNatClampNeg)).bind fun q9 => c13 q9.2 o1 x2 x3 (x4 + 1)) else none) else none) else none) else none)) else none) else none) else none
theorem SC_X7_run_13 {E : sw_E} {d : Nat} (hd : 2 ≤ d) {p : Int32 × sw_St} {c13 : sw_St → Nat → Int32 → Int32 → Int32 → Option (Int32 × sw_St)} (h13 : ∀ (σ : sw_St) (o1 : Nat) (x2 : Int32) (x3 : Int32) (x4 : Int32), c13 σ o1 x2 x3 x4 = some p → sw_W E sw_gX m_X7_run d 13 [(0, .ref 34), (1, .ref o1), (2, .int x2), (3, .int x3), (4, .int x4)] [] σ (sw_pI p)) {σ : sw_St} {o1 : Nat} {x2 : Int32} {x3 : Int32} {x4 : Int32} (h : S_X7_run_13 c13 σ o1 x2 x3 x4 = some p) : sw_W E sw_gX m_X7_run d 13 [(0, .ref 34), (1, .ref o1), (2, .int x2), (3, .int x3), (4, .int x4)] [] σ (sw_pI p) := by
  unfold S_X7_run_13 at h
  obtain ⟨o1, h⟩ := sw_ifs h
  obtain ⟨o2, h⟩ := sw_ifs h
  obtain ⟨o3, h⟩ := sw_ifs h
  refine B_X7_run_13 o1 o2 (sw_inb_sp o3) (fun hc => ?_) (fun hc => ?_)
  · rw [if_pos hc] at h
    refine B_X7_run_44  (fun hc => ?_) (fun hc => ?_)
    · rw [if_pos hc] at h
      refine B_X7_run_66  ?_
      exact SC_X7_run_67 hd h
    · rw [if_neg hc] at h
      obtain ⟨o4, h⟩ := sw_ifs h
      refine B_X7_run_52 (sw_inb_sp o4) ?_
      exact SC_X7_run_67 hd h
  · rw [if_neg hc] at h
    obtain ⟨o5, h⟩ := sw_ifs h
    obtain ⟨o6, h⟩ := sw_ifs h
    obtain ⟨o7, h⟩ := sw_ifs h
    obtain ⟨o8, h⟩ := sw_ifs h
    obtain ⟨q9, hq, h⟩ := sw_bnd h
    refine B_X7_run_24 o5 o6 o7 (sw_inb_sp o8) (FC_X7_step (Nat.le_refl _) hq) (Nat.lt_of_lt_of_le (by decide) hd) (fun s hvs => ?_)
    subst hvs
    refine B_X7_run_38  ?_
    exact h13 _ _ _ _ _ h
noncomputable def L_X7_run_13 : Nat → sw_St → Nat → Int32 → Int32 → Int32 → Option (Int32 × sw_St)
  | 0, _, _, _, _, _ => none
  | k + 1, σ, o1, x2, x3, x4 => S_X7_run_13 (fun σ o1 x2 x3 x4 => L_X7_run_13 k σ o1 x2 x3 x4) σ o1 x2 x3 x4
theorem LC_X7_run_13 {E : sw_E} {d : Nat} (hd : 2 ≤ d) {p : Int32 × sw_St} : ∀ (k : Nat) (σ : sw_St) (o1 : Nat) (x2 : Int32) (x3 : Int32) (x4 : Int32), L_X7_run_13 k σ o1 x2 x3 x4 = some p → sw_W E sw_gX m_X7_run d 13 [(0, .ref 34), (1, .ref o1), (2, .int x2), (3, .int x3), (4, .int x4)] [] σ (sw_pI p) := by
  intro k
  induction k with
  | zero => intro σ o1 x2 x3 x4 h; cases h
  | succ k ih => intro σ o1 x2 x3 x4 h; exact SC_X7_run_13 hd ih h
noncomputable def F_X7_run (σ : sw_St) (o1 : Nat) (x2 : Int32) : Option (Int32 × sw_St) :=
  if sw_isO sw_gX o1 9 = true then (if sw_isA sw_gX (o1 + 11) 0 = true then (if sw_inb x2 (sw_ln sw_gX (o1 + 11)) = true then (L_X7_run_13 sw_fuel σ o1 x2 (σ.1 34 2) (σ.1 (o1 + 11) x2.toNatClampNeg)) else none) else none) else none
theorem FC_X7_run {E : sw_E} {d : Nat} (hd : 2 ≤ d) {p : Int32 × sw_St} {σ : sw_St} {o1 : Nat} {x2 : Int32} (h : F_X7_run σ o1 x2 = some p) : sw_KI E sw_gX m_X7_run d [.ref 34, .ref o1, .int x2] σ (fun v s => v = p.1 ∧ s = p.2) := by
  unfold F_X7_run at h
  refine sw_K.of (by decide +kernel) rfl (Nat.le_of_ble_eq_true rfl) ?_
  show sw_W E sw_gX m_X7_run d 0 [(0, .ref 34), (1, .ref o1), (2, .int x2)] [] σ (sw_pI p)
  obtain ⟨o1, h⟩ := sw_ifs h
  obtain ⟨o2, h⟩ := sw_ifs h
  obtain ⟨o3, h⟩ := sw_ifs h
  refine B_X7_run_0 o1 o2 (sw_inb_sp o3) ?_
  exact LC_X7_run_13 hd _ _ _ _ _ _ h
/-! StrayWool$Hill.pullBy(LStrayWool$State;III)I -/
noncomputable def F_X2_pullBy (σ : sw_St) (o1 : Nat) (x2 : Int32) (x3 : Int32) (x4 : Int32) : Option (Int32 × sw_St) :=
  (F_X2_setField σ o1 x2 x4).bind fun q1 => (q1.2.2.2 33 0).bind fun w2 => (if sw_isO sw_gX w2 9 = true then (if sw_isA sw_gX (w2 + 5) 0 = true then (if sw_inb x3 (sw_ln sw_gX (w2 + 5)) = true then ((q1.2.2.2 33 0).bind fun w6 => ((F_X7_run (sw_uI q1.2 35 5 (q1.2.1 (w2 + 5) x3.toNatClampNeg)) w6 0).bind fun q7 => some (q7.1, q7.2))) else none) else none) else none)
theorem FC_X2_pullBy {E : sw_E} {d : Nat} (hd : 3 ≤ d) {p : Int32 × sw_St} {σ : sw_St} {o1 : Nat} {x2 : Int32} {x3 : Int32} {x4 : Int32} (h : F_X2_pullBy σ o1 x2 x3 x4 = some p) : sw_KI E sw_gX m_X2_pullBy d [.ref 33, .ref o1, .int x2, .int x3, .int x4] σ (fun v s => v = p.1 ∧ s = p.2) := by
  unfold F_X2_pullBy at h
  refine sw_K.of (by decide +kernel) rfl (Nat.le_of_ble_eq_true rfl) ?_
  show sw_W E sw_gX m_X2_pullBy d 0 [(0, .ref 33), (1, .ref o1), (2, .int x2), (3, .int x3), (4, .int x4)] [] σ (sw_pI p)
  obtain ⟨q1, hq, h⟩ := sw_bnd h
  refine B_X2_pullBy_0  (FC_X2_setField (Nat.le_refl _) hq) (Nat.lt_of_lt_of_le (by decide) hd) (fun s hvs => ?_)
  subst hvs
  obtain ⟨w2, ow2, h⟩ := sw_bnd h
  obtain ⟨o3, h⟩ := sw_ifs h
  obtain ⟨o4, h⟩ := sw_ifs h
  obtain ⟨o5, h⟩ := sw_ifs h
  obtain ⟨w6, ow6, h⟩ := sw_bnd h
  obtain ⟨q7, hq, h⟩ := sw_bnd h
  refine B_X2_pullBy_8 ow2 o3 o4 (sw_inb_sp o5) ow6 (FC_X7_run (Nat.le_refl _) hq) (Nat.lt_of_lt_of_le (by decide) hd) (fun v s hvs => ?_)
  obtain ⟨hv1, hv2⟩ := hvs; subst hv1; subst hv2
  cases h
  exact B_X2_pullBy_38  ⟨_, rfl, rfl, rfl⟩
/-! StrayWool$Hill.worthOf(LStrayWool$State;I)I -/
noncomputable def F_X2_worthOf (σ : sw_St) (o1 : Nat) (x2 : Int32) : Option (Int32 × sw_St) :=
  (F_X2_setSheep σ o1 x2).bind fun q1 => (q1.2.2.2 33 0).bind fun w2 => ((F_X7_run q1.2 w2 2).bind fun q3 => (F_J9_min_7cf53 q3.2 9999 q3.1).bind fun q4 => (F_J9_max_7cf53 q4.2 0 q4.1).bind fun q5 => some (q5.1, q5.2))
theorem FC_X2_worthOf {E : sw_E} {d : Nat} (hd : 3 ≤ d) {p : Int32 × sw_St} {σ : sw_St} {o1 : Nat} {x2 : Int32} (h : F_X2_worthOf σ o1 x2 = some p) : sw_KI E sw_gX m_X2_worthOf d [.ref 33, .ref o1, .int x2] σ (fun v s => v = p.1 ∧ s = p.2) := by
  unfold F_X2_worthOf at h
  refine sw_K.of (by decide +kernel) rfl (Nat.le_of_ble_eq_true rfl) ?_
  show sw_W E sw_gX m_X2_worthOf d 0 [(0, .ref 33), (1, .ref o1), (2, .int x2)] [] σ (sw_pI p)
  obtain ⟨q1, hq, h⟩ := sw_bnd h
  refine B_X2_worthOf_0  (FC_X2_setSheep (Nat.le_refl _) hq) (Nat.lt_of_lt_of_le (by decide) hd) (fun s hvs => ?_)
  subst hvs
  obtain ⟨w2, ow2, h⟩ := sw_bnd h
  obtain ⟨q3, hq, h⟩ := sw_bnd h
  refine B_X2_worthOf_6 ow2 (FC_X7_run (Nat.le_refl _) hq) (Nat.lt_of_lt_of_le (by decide) hd) (fun v s hvs => ?_)
  obtain ⟨hv1, hv2⟩ := hvs; subst hv1; subst hv2
  obtain ⟨q4, hq, h⟩ := sw_bnd h
  refine B_X2_worthOf_22  (FC_J9_min_7cf53 (Nat.le_refl _) hq) (Nat.lt_of_lt_of_le (by decide) hd) (fun v s hvs => ?_)
  obtain ⟨hv1, hv2⟩ := hvs; subst hv1; subst hv2
  obtain ⟨q5, hq, h⟩ := sw_bnd h
  refine B_X2_worthOf_25  (FC_J9_max_7cf53 (Nat.le_refl _) hq) (Nat.lt_of_lt_of_le (by decide) hd) (fun v s hvs => ?_)
  obtain ⟨hv1, hv2⟩ := hvs; subst hv1; subst hv2
  cases h
  exact B_X2_worthOf_28  ⟨_, rfl, rfl, rfl⟩
/-! StrayWool$Hill.questionOf(LStrayWool$State;ILStrayWool$Code;)I -/
noncomputable def S_X2_questionOf_212 (c17 : sw_St → Nat → Int32 → Nat → Int32 → Option (Int32 × sw_St)) (σ : sw_St) (o1 : Nat) (x2 : Int32) (o3 : Nat) (x4 : Int32) : Option (Int32 × sw_St) :=
  c17 σ o1 x2 o3 (x4 + 1)
theorem SC_X2_questionOf_212 {E : sw_E} {d : Nat} (hd : 4 ≤ d) {p : Int32 × sw_St} {c17 : sw_St → Nat → Int32 → Nat → Int32 → Option (Int32 × sw_St)} (h17 : ∀ (σ : sw_St) (o1 : Nat) (x2 : Int32) (o3 : Nat) (x4 : Int32), c17 σ o1 x2 o3 x4 = some p → sw_W E sw_gX m_X2_questionOf d 17 [(0, .ref 33), (1, .ref o1), (2, .int x2), (3, .ref o3), (4, .int x4)] [] σ (sw_pI p)) {σ : sw_St} {o1 : Nat} {x2 : Int32} {o3 : Nat} {x4 : Int32} (h : S_X2_questionOf_212 c17 σ o1 x2 o3 x4 = some p) : sw_W E sw_gX m_X2_questionOf d 212 [(0, .ref 33), (1, .ref o1), (2, .int x2), (3, .ref o3), (4, .int x4)] [] σ (sw_pI p) := by
  unfold S_X2_questionOf_212 at h
  refine B_X2_questionOf_212  ?_
  exact h17 _ _ _ _ _ h
noncomputable def S_X2_questionOf_197 (c17 : sw_St → Nat → Int32 → Nat → Int32 → Option (Int32 × sw_St)) (σ : sw_St) (o1 : Nat) (x2 : Int32) (o3 : Nat) (x4 : Int32) (sy0 : Int64) : Option (Int32 × sw_St) :=
  (F_X7_push σ sy0).bind fun q1 => S_X2_questionOf_212 c17 q1.2 o1 x2 o3 x4
theorem SC_X2_questionOf_197 {E : sw_E} {d : Nat} (hd : 4 ≤ d) {p : Int32 × sw_St} {c17 : sw_St → Nat → Int32 → Nat → Int32 → Option (Int32 × sw_St)} (h17 : ∀ (σ : sw_St) (o1 : Nat) (x2 : Int32) (o3 : Nat) (x4 : Int32), c17 σ o1 x2 o3 x4 = some p → sw_W E sw_gX m_X2_questionOf d 17 [(0, .ref 33), (1, .ref o1), (2, .int x2), (3, .ref o3), (4, .int x4)] [] σ (sw_pI p)) {σ : sw_St} {o1 : Nat} {x2 : Int32} {o3 : Nat} {x4 : Int32} {sy0 : Int64} (h : S_X2_questionOf_197 c17 σ o1 x2 o3 x4 sy0 = some p) : sw_W E sw_gX m_X2_questionOf d 197 [(0, .ref 33), (1, .ref o1), (2, .int x2), (3, .ref o3), (4, .int x4)] [.long sy0, .ref 34] σ (sw_pI p) := by
  unfold S_X2_questionOf_197 at h
  obtain ⟨q1, hq, h⟩ := sw_bnd h
  refine B_X2_questionOf_197  (FC_X7_push (Nat.le_refl _) hq) (Nat.lt_of_lt_of_le (by decide) hd) (fun s hvs => ?_)
  subst hvs
  refine B_X2_questionOf_200  ?_
  exact SC_X2_questionOf_212 hd h17 h
noncomputable def S_X2_questionOf_158 (c17 : sw_St → Nat → Int32 → Nat → Int32 → Option (Int32 × sw_St)) (σ : sw_St) (o1 : Nat) (x2 : Int32) (o3 : Nat) (x4 : Int32) (x6 : Int32) (sx0 : Int32) : Option (Int32 × sw_St) :=
  if sx0 = 0 then (S_X2_questionOf_197 c17 σ o1 x2 o3 x4 0) else ((σ.2.2 33 0).bind fun w1 => (if sw_isO sw_gX o1 8 = true then (if sw_isA sw_gX (o1 + 1) 0 = true then (if sw_inb x2 (sw_ln sw_gX (o1 + 1)) = true then (if sw_isO sw_gX w1 9 = true then ((F_X9_beyond σ w1 x6 (σ.1 (o1 + 1) x2.toNatClampNeg)).bind fun q5 => (F_X2_pullBy q5.2 o1 x2 x6 q5.1).bind fun q7 => S_X2_questionOf_197 c17 q7.2 o1 x2 o3 x4 q7.1.toInt64) else none) else none) else none) else none))
theorem SC_X2_questionOf_158 {E : sw_E} {d : Nat} (hd : 4 ≤ d) {p : Int32 × sw_St} {c17 : sw_St → Nat → Int32 → Nat → Int32 → Option (Int32 × sw_St)} (h17 : ∀ (σ : sw_St) (o1 : Nat) (x2 : Int32) (o3 : Nat) (x4 : Int32), c17 σ o1 x2 o3 x4 = some p → sw_W E sw_gX m_X2_questionOf d 17 [(0, .ref 33), (1, .ref o1), (2, .int x2), (3, .ref o3), (4, .int x4)] [] σ (sw_pI p)) {σ : sw_St} {o1 : Nat} {x2 : Int32} {o3 : Nat} {x4 : Int32} {x6 : Int32} {sx0 : Int32} (h : S_X2_questionOf_158 c17 σ o1 x2 o3 x4 x6 sx0 = some p) : sw_W E sw_gX m_X2_questionOf d 158 [(0, .ref 33), (1, .ref o1), (2, .int x2), (3, .ref o3), (4, .int x4), (6, .int x6)] [.int sx0] σ (sw_pI p) := by
  unfold S_X2_questionOf_158 at h
  refine B_X2_questionOf_158  (fun hc => ?_) (fun hc => ?_)
  · rw [if_pos hc] at h
    refine B_X2_questionOf_196  ?_
    exact SC_X2_questionOf_197 hd h17 h
  · rw [if_neg hc] at h
    obtain ⟨w1, ow1, h⟩ := sw_bnd h
    obtain ⟨o2, h⟩ := sw_ifs h
    obtain ⟨o3, h⟩ := sw_ifs h
    obtain ⟨o4, h⟩ := sw_ifs h
    obtain ⟨o6, h⟩ := sw_ifs h
    obtain ⟨q5, hq, h⟩ := sw_bnd h
    refine B_X2_questionOf_169 ow1 o2 o3 (sw_inb_sp o4) (FC_X9_beyond (Nat.le_refl _) hq) (Nat.lt_of_lt_of_le (by decide) hd) (fun v s hvs => ?_) o6
    obtain ⟨hv1, hv2⟩ := hvs; subst hv1; subst hv2
    obtain ⟨q7, hq, h⟩ := sw_bnd h
    refine B_X2_questionOf_189  (FC_X2_pullBy (Nat.le_refl _) hq) (Nat.lt_of_lt_of_le (by decide) hd) (fun v s hvs => ?_)
    obtain ⟨hv1, hv2⟩ := hvs; subst hv1; subst hv2
    refine B_X2_questionOf_192  ?_
    exact SC_X2_questionOf_197 hd h17 h
noncomputable def S_X2_questionOf_157 (c17 : sw_St → Nat → Int32 → Nat → Int32 → Option (Int32 × sw_St)) (σ : sw_St) (o1 : Nat) (x2 : Int32) (o3 : Nat) (x4 : Int32) (x6 : Int32) : Option (Int32 × sw_St) :=
  S_X2_questionOf_158 c17 σ o1 x2 o3 x4 x6 0
theorem SC_X2_questionOf_157 {E : sw_E} {d : Nat} (hd : 4 ≤ d) {p : Int32 × sw_St} {c17 : sw_St → Nat → Int32 → Nat → Int32 → Option (Int32 × sw_St)} (h17 : ∀ (σ : sw_St) (o1 : Nat) (x2 : Int32) (o3 : Nat) (x4 : Int32), c17 σ o1 x2 o3 x4 = some p → sw_W E sw_gX m_X2_questionOf d 17 [(0, .ref 33), (1, .ref o1), (2, .int x2), (3, .ref o3), (4, .int x4)] [] σ (sw_pI p)) {σ : sw_St} {o1 : Nat} {x2 : Int32} {o3 : Nat} {x4 : Int32} {x6 : Int32} (h : S_X2_questionOf_157 c17 σ o1 x2 o3 x4 x6 = some p) : sw_W E sw_gX m_X2_questionOf d 157 [(0, .ref 33), (1, .ref o1), (2, .int x2), (3, .ref o3), (4, .int x4), (6, .int x6)] [] σ (sw_pI p) := by
  unfold S_X2_questionOf_157 at h
  refine B_X2_questionOf_157  ?_
  exact SC_X2_questionOf_158 hd h17 h
noncomputable def S_X2_questionOf_102 (c17 : sw_St → Nat → Int32 → Nat → Int32 → Option (Int32 × sw_St)) (σ : sw_St) (o1 : Nat) (x2 : Int32) (o3 : Nat) (x4 : Int32) (sy0 : Int64) : Option (Int32 × sw_St) :=
  (F_X7_push σ sy0).bind fun q1 => S_X2_questionOf_212 c17 q1.2 o1 x2 o3 x4
theorem SC_X2_questionOf_102 {E : sw_E} {d : Nat} (hd : 4 ≤ d) {p : Int32 × sw_St} {c17 : sw_St → Nat → Int32 → Nat → Int32 → Option (Int32 × sw_St)} (h17 : ∀ (σ : sw_St) (o1 : Nat) (x2 : Int32) (o3 : Nat) (x4 : Int32), c17 σ o1 x2 o3 x4 = some p → sw_W E sw_gX m_X2_questionOf d 17 [(0, .ref 33), (1, .ref o1), (2, .int x2), (3, .ref o3), (4, .int x4)] [] σ (sw_pI p)) {σ : sw_St} {o1 : Nat} {x2 : Int32} {o3 : Nat} {x4 : Int32} {sy0 : Int64} (h : S_X2_questionOf_102 c17 σ o1 x2 o3 x4 sy0 = some p) : sw_W E sw_gX m_X2_questionOf d 102 [(0, .ref 33), (1, .ref o1), (2, .int x2), (3, .ref o3), (4, .int x4)] [.long sy0, .ref 34] σ (sw_pI p) := by
  unfold S_X2_questionOf_102 at h
  obtain ⟨q1, hq, h⟩ := sw_bnd h
  refine B_X2_questionOf_102  (FC_X7_push (Nat.le_refl _) hq) (Nat.lt_of_lt_of_le (by decide) hd) (fun s hvs => ?_)
  subst hvs
  refine B_X2_questionOf_105  ?_
  exact SC_X2_questionOf_212 hd h17 h
noncomputable def S_X2_questionOf_74 (c17 : sw_St → Nat → Int32 → Nat → Int32 → Option (Int32 × sw_St)) (σ : sw_St) (o1 : Nat) (x2 : Int32) (o3 : Nat) (x4 : Int32) (x6 : Int32) (sx0 : Int32) : Option (Int32 × sw_St) :=
  if sx0 = 0 then (S_X2_questionOf_102 c17 σ o1 x2 o3 x4 0) else (if sw_isO sw_gX o1 8 = true then (if sw_isA sw_gX (o1 + 6) 0 = true then (if sw_inb ((x2 * 8) + x6) (sw_ln sw_gX (o1 + 6)) = true then (S_X2_questionOf_102 c17 σ o1 x2 o3 x4 ((σ.1 (o1 + 6) (((x2 * 8) + x6).toNatClampNeg)).toInt64)) else none) else none) else none)
theorem SC_X2_questionOf_74 {E : sw_E} {d : Nat} (hd : 4 ≤ d) {p : Int32 × sw_St} {c17 : sw_St → Nat → Int32 → Nat → Int32 → Option (Int32 × sw_St)} (h17 : ∀ (σ : sw_St) (o1 : Nat) (x2 : Int32) (o3 : Nat) (x4 : Int32), c17 σ o1 x2 o3 x4 = some p → sw_W E sw_gX m_X2_questionOf d 17 [(0, .ref 33), (1, .ref o1), (2, .int x2), (3, .ref o3), (4, .int x4)] [] σ (sw_pI p)) {σ : sw_St} {o1 : Nat} {x2 : Int32} {o3 : Nat} {x4 : Int32} {x6 : Int32} {sx0 : Int32} (h : S_X2_questionOf_74 c17 σ o1 x2 o3 x4 x6 sx0 = some p) : sw_W E sw_gX m_X2_questionOf d 74 [(0, .ref 33), (1, .ref o1), (2, .int x2), (3, .ref o3), (4, .int x4), (6, .int x6)] [.int sx0] σ (sw_pI p) := by
  unfold S_X2_questionOf_74 at h
  refine B_X2_questionOf_74  (fun hc => ?_) (fun hc => ?_)
  · rw [if_pos hc] at h
    refine B_X2_questionOf_101  ?_
    exact SC_X2_questionOf_102 hd h17 h
  · rw [if_neg hc] at h
    obtain ⟨o1, h⟩ := sw_ifs h
    obtain ⟨o2, h⟩ := sw_ifs h
    obtain ⟨o3, h⟩ := sw_ifs h
    refine B_X2_questionOf_85 o1 o2 (sw_inb_sp o3) ?_
    exact SC_X2_questionOf_102 hd h17 h
noncomputable def S_X2_questionOf_73 (c17 : sw_St → Nat → Int32 → Nat → Int32 → Option (Int32 × sw_St)) (σ : sw_St) (o1 : Nat) (x2 : Int32) (o3 : Nat) (x4 : Int32) (x6 : Int32) : Option (Int32 × sw_St) :=
  S_X2_questionOf_74 c17 σ o1 x2 o3 x4 x6 0
theorem SC_X2_questionOf_73 {E : sw_E} {d : Nat} (hd : 4 ≤ d) {p : Int32 × sw_St} {c17 : sw_St → Nat → Int32 → Nat → Int32 → Option (Int32 × sw_St)} (h17 : ∀ (σ : sw_St) (o1 : Nat) (x2 : Int32) (o3 : Nat) (x4 : Int32), c17 σ o1 x2 o3 x4 = some p → sw_W E sw_gX m_X2_questionOf d 17 [(0, .ref 33), (1, .ref o1), (2, .int x2), (3, .ref o3), (4, .int x4)] [] σ (sw_pI p)) {σ : sw_St} {o1 : Nat} {x2 : Int32} {o3 : Nat} {x4 : Int32} {x6 : Int32} (h : S_X2_questionOf_73 c17 σ o1 x2 o3 x4 x6 = some p) : sw_W E sw_gX m_X2_questionOf d 73 [(0, .ref 33), (1, .ref o1), (2, .int x2), (3, .ref o3), (4, .int x4), (6, .int x6)] [] σ (sw_pI p) := by
  unfold S_X2_questionOf_73 at h
  refine B_X2_questionOf_73  ?_
  exact SC_X2_questionOf_74 hd h17 h
noncomputable def S_X2_questionOf_17 (c17 : sw_St → Nat → Int32 → Nat → Int32 → Option (Int32 × sw_St)) (σ : sw_St) (o1 : Nat) (x2 : Int32) (o3 : Nat) (x4 : Int32) : Option (Int32 × sw_St) :=
  if sw_isO sw_gX o3 0 = true then (if (σ.1 o3 1) ≤ x4 then ((F_X7_pop σ ).bind fun q2 => some (q2.1, q2.2)) else (if sw_isO sw_gX o3 0 = true then (if sw_isA sw_gX (o3 + 1) 0 = true then (if sw_inb x4 (sw_ln sw_gX (o3 + 1)) = true then (if (σ.1 (o3 + 1) x4.toNatClampNeg) = 10022 then ((F_X7_pop σ ).bind fun q11 => if q11.1 < 0 then (S_X2_questionOf_73 c17 q11.2 o1 x2 o3 x4 q11.1) else ((q11.2.2.2 33 0).bind fun w12 => (if sw_isO sw_gX w12 9 = true then (if (q11.2.1 w12 1) ≤ q11.1 then (S_X2_questionOf_73 c17 q11.2 o1 x2 o3 x4 q11.1) else (S_X2_questionOf_74 c17 q11.2 o1 x2 o3 x4 q11.1 1)) else none))) else (if (σ.1 (o3 + 1) x4.toNatClampNeg) = 10023 then ((F_X7_pop σ ).bind fun q7 => if q7.1 < 0 then (S_X2_questionOf_157 c17 q7.2 o1 x2 o3 x4 q7.1) else ((q7.2.2.2 33 0).bind fun w8 => (if sw_isO sw_gX w8 9 = true then (if (q7.2.1 w8 2) ≤ q7.1 then (S_X2_questionOf_157 c17 q7.2 o1 x2 o3 x4 q7.1) else ((F_X2_leads q7.2 o1 x2 q7.1).bind fun q10 => if q10.1 = 0 then (S_X2_questionOf_157 c17 q10.2 o1 x2 o3 x4 q7.1) else (S_X2_questionOf_158 c17 q10.2 o1 x2 o3 x4 q7.1 1))) else none))) else ((F_X7_step σ (σ.1 (o3 + 1) x4.toNatClampNeg)).bind fun q6 => S_X2_questionOf_212 c17 q6.2 o1 x2 o3 x4))) else none) else none) else none)) else none
theorem SC_X2_questionOf_17 {E : sw_E} {d : Nat} (hd : 4 ≤ d) {p : Int32 × sw_St} {c17 : sw_St → Nat → Int32 → Nat → Int32 → Option (Int32 × sw_St)} (h17 : ∀ (σ : sw_St) (o1 : Nat) (x2 : Int32) (o3 : Nat) (x4 : Int32), c17 σ o1 x2 o3 x4 = some p → sw_W E sw_gX m_X2_questionOf d 17 [(0, .ref 33), (1, .ref o1), (2, .int x2), (3, .ref o3), (4, .int x4)] [] σ (sw_pI p)) {σ : sw_St} {o1 : Nat} {x2 : Int32} {o3 : Nat} {x4 : Int32} (h : S_X2_questionOf_17 c17 σ o1 x2 o3 x4 = some p) : sw_W E sw_gX m_X2_questionOf d 17 [(0, .ref 33), (1, .ref o1), (2, .int x2), (3, .ref o3), (4, .int x4)] [] σ (sw_pI p) := by
  unfold S_X2_questionOf_17 at h
  obtain ⟨o1, h⟩ := sw_ifs h
  refine B_X2_questionOf_17 o1 (fun hc => ?_) (fun hc => ?_)
  · rw [if_pos hc] at h
    obtain ⟨q2, hq, h⟩ := sw_bnd h
    refine B_X2_questionOf_218  (FC_X7_pop (Nat.le_refl _) hq) (Nat.lt_of_lt_of_le (by decide) hd) (fun v s hvs => ?_)
    obtain ⟨hv1, hv2⟩ := hvs; subst hv1; subst hv2
    cases h
    exact B_X2_questionOf_225  ⟨_, rfl, rfl, rfl⟩
  · rw [if_neg hc] at h
    obtain ⟨o3, h⟩ := sw_ifs h
    obtain ⟨o4, h⟩ := sw_ifs h
    obtain ⟨o5, h⟩ := sw_ifs h
    refine B_X2_questionOf_26 o3 o4 (sw_inb_sp o5) (fun hc => ?_) (fun hc => ?_)
    · rw [if_neg hc] at h
      refine B_X2_questionOf_108  (fun hc => ?_) (fun hc => ?_)
      · rw [if_neg hc] at h
        obtain ⟨q6, hq, h⟩ := sw_bnd h
        refine B_X2_questionOf_203  (FC_X7_step (Nat.le_refl _) hq) (Nat.lt_of_lt_of_le (by decide) hd) (fun s hvs => ?_)
        subst hvs
        exact SC_X2_questionOf_212 hd h17 h
      · rw [if_pos hc] at h
        obtain ⟨q7, hq, h⟩ := sw_bnd h
        refine B_X2_questionOf_116  (FC_X7_pop (Nat.le_refl _) hq) (Nat.lt_of_lt_of_le (by decide) hd) (fun v s hvs => ?_)
        obtain ⟨hv1, hv2⟩ := hvs; subst hv1; subst hv2
        refine B_X2_questionOf_123  (fun hc => ?_) (fun hc => ?_)
        · rw [if_pos hc] at h
          exact SC_X2_questionOf_157 hd h17 h
        · rw [if_neg hc] at h
          obtain ⟨w8, ow8, h⟩ := sw_bnd h
          obtain ⟨o9, h⟩ := sw_ifs h
          refine B_X2_questionOf_130 ow8 o9 (fun hc => ?_) (fun hc => ?_)
          · rw [if_pos hc] at h
            exact SC_X2_questionOf_157 hd h17 h
          · rw [if_neg hc] at h
            obtain ⟨q10, hq, h⟩ := sw_bnd h
            refine B_X2_questionOf_142  (FC_X2_leads (Nat.le_refl _) hq) (Nat.lt_of_lt_of_le (by decide) hd) (fun v s hvs => ?_)
            obtain ⟨hv1, hv2⟩ := hvs; subst hv1; subst hv2
            refine B_X2_questionOf_150  (fun hc => ?_) (fun hc => ?_)
            · rw [if_pos hc] at h
              exact SC_X2_questionOf_157 hd h17 h
            · rw [if_neg hc] at h
              refine B_X2_questionOf_153  ?_
              exact SC_X2_questionOf_158 hd h17 h
    · rw [if_pos hc] at h
      obtain ⟨q11, hq, h⟩ := sw_bnd h
      refine B_X2_questionOf_43  (FC_X7_pop (Nat.le_refl _) hq) (Nat.lt_of_lt_of_le (by decide) hd) (fun v s hvs => ?_)
      obtain ⟨hv1, hv2⟩ := hvs; subst hv1; subst hv2
      refine B_X2_questionOf_50  (fun hc => ?_) (fun hc => ?_)
      · rw [if_pos hc] at h
        exact SC_X2_questionOf_73 hd h17 h
      · rw [if_neg hc] at h
        obtain ⟨w12, ow12, h⟩ := sw_bnd h
        obtain ⟨o13, h⟩ := sw_ifs h
        refine B_X2_questionOf_57 ow12 o13 (fun hc => ?_) (fun hc => ?_)
        · rw [if_pos hc] at h
          exact SC_X2_questionOf_73 hd h17 h
        · rw [if_neg hc] at h
          refine B_X2_questionOf_69  ?_
          exact SC_X2_questionOf_74 hd h17 h
noncomputable def L_X2_questionOf_17 : Nat → sw_St → Nat → Int32 → Nat → Int32 → Option (Int32 × sw_St)
  | 0, _, _, _, _, _ => none
  | k + 1, σ, o1, x2, o3, x4 => S_X2_questionOf_17 (fun σ o1 x2 o3 x4 => L_X2_questionOf_17 k σ o1 x2 o3 x4) σ o1 x2 o3 x4
theorem LC_X2_questionOf_17 {E : sw_E} {d : Nat} (hd : 4 ≤ d) {p : Int32 × sw_St} : ∀ (k : Nat) (σ : sw_St) (o1 : Nat) (x2 : Int32) (o3 : Nat) (x4 : Int32), L_X2_questionOf_17 k σ o1 x2 o3 x4 = some p → sw_W E sw_gX m_X2_questionOf d 17 [(0, .ref 33), (1, .ref o1), (2, .int x2), (3, .ref o3), (4, .int x4)] [] σ (sw_pI p) := by
  intro k
  induction k with
  | zero => intro σ o1 x2 o3 x4 h; cases h
  | succ k ih => intro σ o1 x2 o3 x4 h; exact SC_X2_questionOf_17 hd ih h
noncomputable def F_X2_questionOf (σ : sw_St) (o1 : Nat) (x2 : Int32) (o3 : Nat) : Option (Int32 × sw_St) :=
  (F_X2_setSheep σ o1 x2).bind fun q1 => L_X2_questionOf_17 sw_fuel (sw_uI q1.2 34 2 0) o1 x2 o3 0
theorem FC_X2_questionOf {E : sw_E} {d : Nat} (hd : 4 ≤ d) {p : Int32 × sw_St} {σ : sw_St} {o1 : Nat} {x2 : Int32} {o3 : Nat} (h : F_X2_questionOf σ o1 x2 o3 = some p) : sw_KI E sw_gX m_X2_questionOf d [.ref 33, .ref o1, .int x2, .ref o3] σ (fun v s => v = p.1 ∧ s = p.2) := by
  unfold F_X2_questionOf at h
  refine sw_K.of (by decide +kernel) rfl (Nat.le_of_ble_eq_true rfl) ?_
  show sw_W E sw_gX m_X2_questionOf d 0 [(0, .ref 33), (1, .ref o1), (2, .int x2), (3, .ref o3)] [] σ (sw_pI p)
  obtain ⟨q1, hq, h⟩ := sw_bnd h
  refine B_X2_questionOf_0  (FC_X2_setSheep (Nat.le_refl _) hq) (Nat.lt_of_lt_of_le (by decide) hd) (fun s hvs => ?_)
  subst hvs
  refine B_X2_questionOf_6  ?_
  exact LC_X2_questionOf_17 hd _ _ _ _ _ _ h
/-! StrayWool$Parser.fieldStatement()Z -/
noncomputable def S_X3_fieldStatement_60 (σ : sw_St) : Option (Int32 × sw_St) :=
  some (0, σ)
theorem SC_X3_fieldStatement_60 {E : sw_E} {d : Nat} (hd : 8 ≤ d) {p : Int32 × sw_St} {σ : sw_St} (h : S_X3_fieldStatement_60 σ  = some p) : sw_W E sw_gX m_X3_fieldStatement d 60 [] [] σ (sw_pI p) := by
  unfold S_X3_fieldStatement_60 at h
  cases h
  exact B_X3_fieldStatement_60  ⟨_, rfl, rfl, rfl⟩
noncomputable def F_X3_fieldStatement (σ : sw_St) : Option (Int32 × sw_St) :=
  (σ.2.2 32 1).bind fun w1 => (if sw_isO sw_gX w1 9 = true then (if (σ.1 w1 1) < 8 then ((F_X6_advance σ ).bind fun q3 => (F_X3_newName q3.2 ).bind fun q4 => if q4.1 = (-1) then (S_X3_fieldStatement_60 q4.2 ) else ((F_X6_expect q4.2 257).bind fun q5 => if q5.1 = 0 then (S_X3_fieldStatement_60 q5.2 ) else ((F_X6_takeNumber q5.2 0 9).bind fun q6 => if q6.1 = (-1) then (some (0, q6.2)) else ((q6.2.2.2 32 1).bind fun w7 => (if sw_isO sw_gX w7 9 = true then (if sw_isA sw_gX (w7 + 1) 0 = true then (if sw_inb (σ.1 w1 1) (sw_ln sw_gX (w7 + 1)) = true then ((q6.2.2.2 32 1).bind fun w11 => (if sw_isO sw_gX w11 9 = true then (if sw_isA sw_gX (w11 + 2) 0 = true then (if sw_inb (σ.1 w1 1) (sw_ln sw_gX (w11 + 2)) = true then ((q6.2.2.2 32 1).bind fun w15 => (if sw_isO sw_gX w15 9 = true then (if sw_isO sw_gX w15 9 = true then (some (1, (sw_uI (sw_uI (sw_uI q6.2 (w7 + 1) (σ.1 w1 1).toNatClampNeg q4.1) (w11 + 2) (σ.1 w1 1).toNatClampNeg q6.1) w15 1 (((sw_uI (sw_uI q6.2 (w7 + 1) (σ.1 w1 1).toNatClampNeg q4.1) (w11 + 2) (σ.1 w1 1).toNatClampNeg q6.1).1 w15 1) + 1)))) else none) else none)) else none) else none) else none)) else none) else none) else none))))) else ((F_X6_fail σ 5 (σ.1 2 3)).bind fun q18 => if q18.1 = 0 ∨ q18.1 = 1 then some (q18.1, q18.2) else none)) else none)
theorem FC_X3_fieldStatement {E : sw_E} {d : Nat} (hd : 8 ≤ d) {p : Int32 × sw_St} {σ : sw_St} (h : F_X3_fieldStatement σ  = some p) : sw_KI E sw_gX m_X3_fieldStatement d [.ref 32] σ (fun v s => v = p.1 ∧ s = p.2) := by
  unfold F_X3_fieldStatement at h
  refine sw_K.of (by decide +kernel) rfl (Nat.le_of_ble_eq_true rfl) ?_
  show sw_W E sw_gX m_X3_fieldStatement d 0 [(0, .ref 32)] [] σ (sw_pI p)
  obtain ⟨w1, ow1, h⟩ := sw_bnd h
  obtain ⟨o2, h⟩ := sw_ifs h
  refine B_X3_fieldStatement_0 ow1 o2 (fun hc => ?_) (fun hc => ?_)
  · rw [if_pos hc] at h
    obtain ⟨q3, hq, h⟩ := sw_bnd h
    refine B_X3_fieldStatement_30  (FC_X6_advance (Nat.le_refl _) hq) (Nat.lt_of_lt_of_le (by decide) hd) (fun s hvs => ?_)
    subst hvs
    obtain ⟨q4, hq, h⟩ := sw_bnd h
    refine B_X3_fieldStatement_37  (FC_X3_newName (Nat.le_refl _) hq) (Nat.lt_of_lt_of_le (by decide) hd) (fun v s hvs => ?_)
    obtain ⟨hv1, hv2⟩ := hvs; subst hv1; subst hv2
    refine B_X3_fieldStatement_41  (fun hc => ?_) (fun hc => ?_)
    · rw [if_pos hc] at h
      exact SC_X3_fieldStatement_60 hd h
    · rw [if_neg hc] at h
      obtain ⟨q5, hq, h⟩ := sw_bnd h
      refine B_X3_fieldStatement_47  (FC_X6_expect (Nat.le_refl _) hq) (Nat.lt_of_lt_of_le (by decide) hd) (fun v s hvs => ?_)
      obtain ⟨hv1, hv2⟩ := hvs; subst hv1; subst hv2
      refine B_X3_fieldStatement_57  (fun hc => ?_) (fun hc => ?_)
      · rw [if_neg hc] at h
        obtain ⟨q6, hq, h⟩ := sw_bnd h
        refine B_X3_fieldStatement_62  (FC_X6_takeNumber (Nat.le_refl _) hq) (Nat.lt_of_lt_of_le (by decide) hd) (fun v s hvs => ?_)
        obtain ⟨hv1, hv2⟩ := hvs; subst hv1; subst hv2
        refine B_X3_fieldStatement_72  (fun hc => ?_) (fun hc => ?_)
        · rw [if_neg hc] at h
          obtain ⟨w7, ow7, h⟩ := sw_bnd h
          obtain ⟨o8, h⟩ := sw_ifs h
          obtain ⟨o9, h⟩ := sw_ifs h
          obtain ⟨o10, h⟩ := sw_ifs h
          obtain ⟨w11, ow11, h⟩ := sw_bnd h
          obtain ⟨o12, h⟩ := sw_ifs h
          obtain ⟨o13, h⟩ := sw_ifs h
          obtain ⟨o14, h⟩ := sw_ifs h
          obtain ⟨w15, ow15, h⟩ := sw_bnd h
          obtain ⟨o16, h⟩ := sw_ifs h
          obtain ⟨o17, h⟩ := sw_ifs h
          cases h
          exact B_X3_fieldStatement_80 ow7 o8 o9 (sw_inb_sp o10) ow11 o12 o13 (sw_inb_sp o14) ow15 o16 o17 ⟨_, rfl, rfl, rfl⟩
        · rw [if_pos hc] at h
          cases h
          exact B_X3_fieldStatement_78  ⟨_, rfl, rfl, rfl⟩
      · rw [if_pos hc] at h
        exact SC_X3_fieldStatement_60 hd h
  · rw [if_neg hc] at h
    obtain ⟨q18, hq, h⟩ := sw_bnd h
    refine B_X3_fieldStatement_14  (FC_X6_fail (Nat.le_refl _) hq) (Nat.lt_of_lt_of_le (by decide) hd) (fun v s hvs => ?_)
    obtain ⟨hv1, hv2⟩ := hvs; subst hv1; subst hv2
    obtain ⟨hz, h⟩ := sw_ifs h
    cases h
    exact B_X3_fieldStatement_29  hz ⟨_, rfl, rfl, rfl⟩
/-! StrayWool$Parser.gapStatement()Z -/
noncomputable def S_X3_gapStatement_61 (σ : sw_St) : Option (Int32 × sw_St) :=
  some (0, σ)
theorem SC_X3_gapStatement_61 {E : sw_E} {d : Nat} (hd : 8 ≤ d) {p : Int32 × sw_St} {σ : sw_St} (h : S_X3_gapStatement_61 σ  = some p) : sw_W E sw_gX m_X3_gapStatement d 61 [] [] σ (sw_pI p) := by
  unfold S_X3_gapStatement_61 at h
  cases h
  exact B_X3_gapStatement_61  ⟨_, rfl, rfl, rfl⟩
noncomputable def S_X3_gapStatement_87 (σ : sw_St) : Option (Int32 × sw_St) :=
  some (0, σ)
theorem SC_X3_gapStatement_87 {E : sw_E} {d : Nat} (hd : 8 ≤ d) {p : Int32 × sw_St} {σ : sw_St} (h : S_X3_gapStatement_87 σ  = some p) : sw_W E sw_gX m_X3_gapStatement d 87 [] [] σ (sw_pI p) := by
  unfold S_X3_gapStatement_87 at h
  cases h
  exact B_X3_gapStatement_87  ⟨_, rfl, rfl, rfl⟩
noncomputable def F_X3_gapStatement (σ : sw_St) : Option (Int32 × sw_St) :=
  (σ.2.2 32 1).bind fun w1 => (if sw_isO sw_gX w1 9 = true then (if (σ.1 w1 2) < 10 then ((F_X6_advance σ ).bind fun q3 => (F_X3_knownField q3.2 (-1)).bind fun q4 => if q4.1 = (-1) then (S_X3_gapStatement_61 q4.2 ) else ((F_X6_expect q4.2 259).bind fun q5 => if q5.1 = 0 then (S_X3_gapStatement_61 q5.2 ) else ((F_X3_knownField q5.2 q4.1).bind fun q6 => if q6.1 = (-1) then (S_X3_gapStatement_87 q6.2 ) else ((F_X6_expect q6.2 260).bind fun q7 => if q7.1 = 0 then (S_X3_gapStatement_87 q7.2 ) else ((F_X6_takeNumber q7.2 1 9).bind fun q8 => if q8.1 = (-1) then (some (0, q8.2)) else ((q8.2.2.2 32 1).bind fun w9 => (if sw_isO sw_gX w9 9 = true then (if sw_isA sw_gX (w9 + 3) 0 = true then (if sw_inb (σ.1 w1 2) (sw_ln sw_gX (w9 + 3)) = true then ((q8.2.2.2 32 1).bind fun w13 => (if sw_isO sw_gX w13 9 = true then (if sw_isA sw_gX (w13 + 4) 0 = true then (if sw_inb (σ.1 w1 2) (sw_ln sw_gX (w13 + 4)) = true then ((q8.2.2.2 32 1).bind fun w17 => (if sw_isO sw_gX w17 9 = true then (if sw_isA sw_gX (w17 + 5) 0 = true then (if sw_inb (σ.1 w1 2) (sw_ln sw_gX (w17 + 5)) = true then ((q8.2.2.2 32 1).bind fun w21 => (if sw_isO sw_gX w21 9 = true then (if sw_isO sw_gX w21 9 = true then ((q8.2.2.2 32 1).bind fun w24 => (if sw_isO sw_gX w24 9 = true then (if sw_isO sw_gX w24 9 = true then (some (1, (sw_uI (sw_uI (sw_uI (sw_uI (sw_uI q8.2 (w9 + 3) (σ.1 w1 2).toNatClampNeg q4.1) (w13 + 4) (σ.1 w1 2).toNatClampNeg q6.1) (w17 + 5) (σ.1 w1 2).toNatClampNeg q8.1) w21 5 (((sw_uI (sw_uI (sw_uI q8.2 (w9 + 3) (σ.1 w1 2).toNatClampNeg q4.1) (w13 + 4) (σ.1 w1 2).toNatClampNeg q6.1) (w17 + 5) (σ.1 w1 2).toNatClampNeg q8.1).1 w21 5) ||| ((1 : Int32) <<< ((σ.1 w1 2) &&& 31)))) w24 2 (((sw_uI (sw_uI (sw_uI (sw_uI q8.2 (w9 + 3) (σ.1 w1 2).toNatClampNeg q4.1) (w13 + 4) (σ.1 w1 2).toNatClampNeg q6.1) (w17 + 5) (σ.1 w1 2).toNatClampNeg q8.1) w21 5 (((sw_uI (sw_uI (sw_uI q8.2 (w9 + 3) (σ.1 w1 2).toNatClampNeg q4.1) (w13 + 4) (σ.1 w1 2).toNatClampNeg q6.1) (w17 + 5) (σ.1 w1 2).toNatClampNeg q8.1).1 w21 5) ||| ((1 : Int32) <<< ((σ.1 w1 2) &&& 31)))).1 w24 2) + 1)))) else none) else none)) else none) else none)) else none) else none) else none)) else none) else none) else none)) else none) else none) else none))))))) else ((F_X6_fail σ 5 (σ.1 2 3)).bind fun q27 => if q27.1 = 0 ∨ q27.1 = 1 then some (q27.1, q27.2) else none)) else none)
theorem FC_X3_gapStatement {E : sw_E} {d : Nat} (hd : 8 ≤ d) {p : Int32 × sw_St} {σ : sw_St} (h : F_X3_gapStatement σ  = some p) : sw_KI E sw_gX m_X3_gapStatement d [.ref 32] σ (fun v s => v = p.1 ∧ s = p.2) := by
  unfold F_X3_gapStatement at h
  refine sw_K.of (by decide +kernel) rfl (Nat.le_of_ble_eq_true rfl) ?_
  show sw_W E sw_gX m_X3_gapStatement d 0 [(0, .ref 32)] [] σ (sw_pI p)
  obtain ⟨w1, ow1, h⟩ := sw_bnd h
  obtain ⟨o2, h⟩ := sw_ifs h
  refine B_X3_gapStatement_0 ow1 o2 (fun hc => ?_) (fun hc => ?_)
  · rw [if_pos hc] at h
    obtain ⟨q3, hq, h⟩ := sw_bnd h
    refine B_X3_gapStatement_30  (FC_X6_advance (Nat.le_refl _) hq) (Nat.lt_of_lt_of_le (by decide) hd) (fun s hvs => ?_)
    subst hvs
    obtain ⟨q4, hq, h⟩ := sw_bnd h
    refine B_X3_gapStatement_37  (FC_X3_knownField (Nat.le_refl _) hq) (Nat.lt_of_lt_of_le (by decide) hd) (fun v s hvs => ?_)
    obtain ⟨hv1, hv2⟩ := hvs; subst hv1; subst hv2
    refine B_X3_gapStatement_42  (fun hc => ?_) (fun hc => ?_)
    · rw [if_pos hc] at h
      exact SC_X3_gapStatement_61 hd h
    · rw [if_neg hc] at h
      obtain ⟨q5, hq, h⟩ := sw_bnd h
      refine B_X3_gapStatement_48  (FC_X6_expect (Nat.le_refl _) hq) (Nat.lt_of_lt_of_le (by decide) hd) (fun v s hvs => ?_)
      obtain ⟨hv1, hv2⟩ := hvs; subst hv1; subst hv2
      refine B_X3_gapStatement_58  (fun hc => ?_) (fun hc => ?_)
      · rw [if_neg hc] at h
        obtain ⟨q6, hq, h⟩ := sw_bnd h
        refine B_X3_gapStatement_63  (FC_X3_knownField (Nat.le_refl _) hq) (Nat.lt_of_lt_of_le (by decide) hd) (fun v s hvs => ?_)
        obtain ⟨hv1, hv2⟩ := hvs; subst hv1; subst hv2
        refine B_X3_gapStatement_68  (fun hc => ?_) (fun hc => ?_)
        · rw [if_pos hc] at h
          exact SC_X3_gapStatement_87 hd h
        · rw [if_neg hc] at h
          obtain ⟨q7, hq, h⟩ := sw_bnd h
          refine B_X3_gapStatement_74  (FC_X6_expect (Nat.le_refl _) hq) (Nat.lt_of_lt_of_le (by decide) hd) (fun v s hvs => ?_)
          obtain ⟨hv1, hv2⟩ := hvs; subst hv1; subst hv2
          refine B_X3_gapStatement_84  (fun hc => ?_) (fun hc => ?_)
          · rw [if_neg hc] at h
            obtain ⟨q8, hq, h⟩ := sw_bnd h
            refine B_X3_gapStatement_89  (FC_X6_takeNumber (Nat.le_refl _) hq) (Nat.lt_of_lt_of_le (by decide) hd) (fun v s hvs => ?_)
            obtain ⟨hv1, hv2⟩ := hvs; subst hv1; subst hv2
            refine B_X3_gapStatement_99  (fun hc => ?_) (fun hc => ?_)
            · rw [if_neg hc] at h
              obtain ⟨w9, ow9, h⟩ := sw_bnd h
              obtain ⟨o10, h⟩ := sw_ifs h
              obtain ⟨o11, h⟩ := sw_ifs h
              obtain ⟨o12, h⟩ := sw_ifs h
              obtain ⟨w13, ow13, h⟩ := sw_bnd h
              obtain ⟨o14, h⟩ := sw_ifs h
              obtain ⟨o15, h⟩ := sw_ifs h
              obtain ⟨o16, h⟩ := sw_ifs h
              obtain ⟨w17, ow17, h⟩ := sw_bnd h
              obtain ⟨o18, h⟩ := sw_ifs h
              obtain ⟨o19, h⟩ := sw_ifs h
              obtain ⟨o20, h⟩ := sw_ifs h
              obtain ⟨w21, ow21, h⟩ := sw_bnd h
              obtain ⟨o22, h⟩ := sw_ifs h
              obtain ⟨o23, h⟩ := sw_ifs h
              obtain ⟨w24, ow24, h⟩ := sw_bnd h
              obtain ⟨o25, h⟩ := sw_ifs h
              obtain ⟨o26, h⟩ := sw_ifs h
              cases h
              exact B_X3_gapStatement_109 ow9 o10 o11 (sw_inb_sp o12) ow13 o14 o15 (sw_inb_sp o16) ow17 o18 o19 (sw_inb_sp o20) ow21 o22 o23 ow24 o25 o26 ⟨_, rfl, rfl, rfl⟩
            · rw [if_pos hc] at h
              cases h
              exact B_X3_gapStatement_107  ⟨_, rfl, rfl, rfl⟩
          · rw [if_pos hc] at h
            exact SC_X3_gapStatement_87 hd h
      · rw [if_pos hc] at h
        exact SC_X3_gapStatement_61 hd h
  · rw [if_neg hc] at h
    obtain ⟨q27, hq, h⟩ := sw_bnd h
    refine B_X3_gapStatement_14  (FC_X6_fail (Nat.le_refl _) hq) (Nat.lt_of_lt_of_le (by decide) hd) (fun v s hvs => ?_)
    obtain ⟨hv1, hv2⟩ := hvs; subst hv1; subst hv2
    obtain ⟨hz, h⟩ := sw_ifs h
    cases h
    exact B_X3_gapStatement_29  hz ⟨_, rfl, rfl, rfl⟩
/-! StrayWool$Parser.sheepStatement()Z -/
noncomputable def S_X3_sheepStatement_60 (σ : sw_St) : Option (Int32 × sw_St) :=
  some (0, σ)
theorem SC_X3_sheepStatement_60 {E : sw_E} {d : Nat} (hd : 8 ≤ d) {p : Int32 × sw_St} {σ : sw_St} (h : S_X3_sheepStatement_60 σ  = some p) : sw_W E sw_gX m_X3_sheepStatement d 60 [] [] σ (sw_pI p) := by
  unfold S_X3_sheepStatement_60 at h
  cases h
  exact B_X3_sheepStatement_60  ⟨_, rfl, rfl, rfl⟩
noncomputable def S_X3_sheepStatement_86 (σ : sw_St) : Option (Int32 × sw_St) :=
  some (0, σ)
theorem SC_X3_sheepStatement_86 {E : sw_E} {d : Nat} (hd : 8 ≤ d) {p : Int32 × sw_St} {σ : sw_St} (h : S_X3_sheepStatement_86 σ  = some p) : sw_W E sw_gX m_X3_sheepStatement d 86 [] [] σ (sw_pI p) := by
  unfold S_X3_sheepStatement_86 at h
  cases h
  exact B_X3_sheepStatement_86  ⟨_, rfl, rfl, rfl⟩
noncomputable def F_X3_sheepStatement (σ : sw_St) : Option (Int32 × sw_St) :=
  (σ.2.2 32 1).bind fun w1 => (if sw_isO sw_gX w1 9 = true then (if (σ.1 w1 3) < 6 then ((F_X6_advance σ ).bind fun q3 => (F_X3_newName q3.2 ).bind fun q4 => if q4.1 = (-1) then (S_X3_sheepStatement_60 q4.2 ) else ((F_X6_expect q4.2 263).bind fun q5 => if q5.1 = 0 then (S_X3_sheepStatement_60 q5.2 ) else ((F_X3_knownField q5.2 (-1)).bind fun q6 => if q6.1 = (-1) then (S_X3_sheepStatement_86 q6.2 ) else ((F_X6_expect q6.2 264).bind fun q7 => if q7.1 = 0 then (S_X3_sheepStatement_86 q7.2 ) else ((F_X6_takeNumber q7.2 0 9).bind fun q8 => if q8.1 = (-1) then (some (0, q8.2)) else ((q8.2.2.2 32 1).bind fun w9 => (if sw_isO sw_gX w9 9 = true then (if sw_isA sw_gX (w9 + 6) 0 = true then (if sw_inb (σ.1 w1 3) (sw_ln sw_gX (w9 + 6)) = true then ((q8.2.2.2 32 1).bind fun w13 => (if sw_isO sw_gX w13 9 = true then (if sw_isA sw_gX (w13 + 7) 0 = true then (if sw_inb (σ.1 w1 3) (sw_ln sw_gX (w13 + 7)) = true then ((q8.2.2.2 32 1).bind fun w17 => (if sw_isO sw_gX w17 9 = true then (if sw_isA sw_gX (w17 + 8) 0 = true then (if sw_inb (σ.1 w1 3) (sw_ln sw_gX (w17 + 8)) = true then ((q8.2.2.2 32 1).bind fun w21 => (if sw_isO sw_gX w21 9 = true then (if sw_isO sw_gX w21 9 = true then (some (1, (sw_uI (sw_uI (sw_uI (sw_uI q8.2 (w9 + 6) (σ.1 w1 3).toNatClampNeg q4.1) (w13 + 7) (σ.1 w1 3).toNatClampNeg q6.1) (w17 + 8) (σ.1 w1 3).toNatClampNeg q8.1) w21 3 (((sw_uI (sw_uI (sw_uI q8.2 (w9 + 6) (σ.1 w1 3).toNatClampNeg q4.1) (w13 + 7) (σ.1 w1 3).toNatClampNeg q6.1) (w17 + 8) (σ.1 w1 3).toNatClampNeg q8.1).1 w21 3) + 1)))) else none) else none)) else none) else none) else none)) else none) else none) else none)) else none) else none) else none))))))) else ((F_X6_fail σ 5 (σ.1 2 3)).bind fun q24 => if q24.1 = 0 ∨ q24.1 = 1 then some (q24.1, q24.2) else none)) else none)
theorem FC_X3_sheepStatement {E : sw_E} {d : Nat} (hd : 8 ≤ d) {p : Int32 × sw_St} {σ : sw_St} (h : F_X3_sheepStatement σ  = some p) : sw_KI E sw_gX m_X3_sheepStatement d [.ref 32] σ (fun v s => v = p.1 ∧ s = p.2) := by
  unfold F_X3_sheepStatement at h
  refine sw_K.of (by decide +kernel) rfl (Nat.le_of_ble_eq_true rfl) ?_
  show sw_W E sw_gX m_X3_sheepStatement d 0 [(0, .ref 32)] [] σ (sw_pI p)
  obtain ⟨w1, ow1, h⟩ := sw_bnd h
  obtain ⟨o2, h⟩ := sw_ifs h
  refine B_X3_sheepStatement_0 ow1 o2 (fun hc => ?_) (fun hc => ?_)
  · rw [if_pos hc] at h
    obtain ⟨q3, hq, h⟩ := sw_bnd h
    refine B_X3_sheepStatement_30  (FC_X6_advance (Nat.le_refl _) hq) (Nat.lt_of_lt_of_le (by decide) hd) (fun s hvs => ?_)
    subst hvs
    obtain ⟨q4, hq, h⟩ := sw_bnd h
    refine B_X3_sheepStatement_37  (FC_X3_newName (Nat.le_refl _) hq) (Nat.lt_of_lt_of_le (by decide) hd) (fun v s hvs => ?_)
    obtain ⟨hv1, hv2⟩ := hvs; subst hv1; subst hv2
    refine B_X3_sheepStatement_41  (fun hc => ?_) (fun hc => ?_)
    · rw [if_pos hc] at h
      exact SC_X3_sheepStatement_60 hd h
    · rw [if_neg hc] at h
      obtain ⟨q5, hq, h⟩ := sw_bnd h
      refine B_X3_sheepStatement_47  (FC_X6_expect (Nat.le_refl _) hq) (Nat.lt_of_lt_of_le (by decide) hd) (fun v s hvs => ?_)
      obtain ⟨hv1, hv2⟩ := hvs; subst hv1; subst hv2
      refine B_X3_sheepStatement_57  (fun hc => ?_) (fun hc => ?_)
      · rw [if_neg hc] at h
        obtain ⟨q6, hq, h⟩ := sw_bnd h
        refine B_X3_sheepStatement_62  (FC_X3_knownField (Nat.le_refl _) hq) (Nat.lt_of_lt_of_le (by decide) hd) (fun v s hvs => ?_)
        obtain ⟨hv1, hv2⟩ := hvs; subst hv1; subst hv2
        refine B_X3_sheepStatement_67  (fun hc => ?_) (fun hc => ?_)
        · rw [if_pos hc] at h
          exact SC_X3_sheepStatement_86 hd h
        · rw [if_neg hc] at h
          obtain ⟨q7, hq, h⟩ := sw_bnd h
          refine B_X3_sheepStatement_73  (FC_X6_expect (Nat.le_refl _) hq) (Nat.lt_of_lt_of_le (by decide) hd) (fun v s hvs => ?_)
          obtain ⟨hv1, hv2⟩ := hvs; subst hv1; subst hv2
          refine B_X3_sheepStatement_83  (fun hc => ?_) (fun hc => ?_)
          · rw [if_neg hc] at h
            obtain ⟨q8, hq, h⟩ := sw_bnd h
            refine B_X3_sheepStatement_88  (FC_X6_takeNumber (Nat.le_refl _) hq) (Nat.lt_of_lt_of_le (by decide) hd) (fun v s hvs => ?_)
            obtain ⟨hv1, hv2⟩ := hvs; subst hv1; subst hv2
            refine B_X3_sheepStatement_98  (fun hc => ?_) (fun hc => ?_)
            · rw [if_neg hc] at h
              obtain ⟨w9, ow9, h⟩ := sw_bnd h
              obtain ⟨o10, h⟩ := sw_ifs h
              obtain ⟨o11, h⟩ := sw_ifs h
              obtain ⟨o12, h⟩ := sw_ifs h
              obtain ⟨w13, ow13, h⟩ := sw_bnd h
              obtain ⟨o14, h⟩ := sw_ifs h
              obtain ⟨o15, h⟩ := sw_ifs h
              obtain ⟨o16, h⟩ := sw_ifs h
              obtain ⟨w17, ow17, h⟩ := sw_bnd h
              obtain ⟨o18, h⟩ := sw_ifs h
              obtain ⟨o19, h⟩ := sw_ifs h
              obtain ⟨o20, h⟩ := sw_ifs h
              obtain ⟨w21, ow21, h⟩ := sw_bnd h
              obtain ⟨o22, h⟩ := sw_ifs h
              obtain ⟨o23, h⟩ := sw_ifs h
              cases h
              exact B_X3_sheepStatement_108 ow9 o10 o11 (sw_inb_sp o12) ow13 o14 o15 (sw_inb_sp o16) ow17 o18 o19 (sw_inb_sp o20) ow21 o22 o23 ⟨_, rfl, rfl, rfl⟩
            · rw [if_pos hc] at h
              cases h
              exact B_X3_sheepStatement_106  ⟨_, rfl, rfl, rfl⟩
          · rw [if_pos hc] at h
            exact SC_X3_sheepStatement_86 hd h
      · rw [if_pos hc] at h
        exact SC_X3_sheepStatement_60 hd h
  · rw [if_neg hc] at h
    obtain ⟨q24, hq, h⟩ := sw_bnd h
    refine B_X3_sheepStatement_14  (FC_X6_fail (Nat.le_refl _) hq) (Nat.lt_of_lt_of_le (by decide) hd) (fun v s hvs => ?_)
    obtain ⟨hv1, hv2⟩ := hvs; subst hv1; subst hv2
    obtain ⟨hz, h⟩ := sw_ifs h
    cases h
    exact B_X3_sheepStatement_29  hz ⟨_, rfl, rfl, rfl⟩
/-! StrayWool.brings(I)I -/
noncomputable def S_X10_brings_24 (σ : sw_St) (sx0 : Int32) : Option (Int32 × sw_St) :=
  some (sx0, σ)
theorem SC_X10_brings_24 {E : sw_E} {d : Nat} (hd : 4 ≤ d) {p : Int32 × sw_St} {σ : sw_St} {sx0 : Int32} (h : S_X10_brings_24 σ sx0 = some p) : sw_W E sw_gX m_X10_brings d 24 [] [.int sx0] σ (sw_pI p) := by
  unfold S_X10_brings_24 at h
  cases h
  exact B_X10_brings_24  ⟨_, rfl, rfl, rfl⟩
noncomputable def F_X10_brings (σ : sw_St) (x1 : Int32) : Option (Int32 × sw_St) :=
  (F_X10_isSheep σ x1).bind fun q1 => if q1.1 = 0 then (S_X10_brings_24 q1.2 (-1)) else ((F_X2_worthOf q1.2 38 x1).bind fun q2 => S_X10_brings_24 q2.2 q2.1)
theorem FC_X10_brings {E : sw_E} {d : Nat} (hd : 4 ≤ d) {p : Int32 × sw_St} {σ : sw_St} {x1 : Int32} (h : F_X10_brings σ x1 = some p) : sw_KI E sw_gX m_X10_brings d [.ref 0, .int x1] σ (fun v s => v = p.1 ∧ s = p.2) := by
  unfold F_X10_brings at h
  refine sw_K.of (by decide +kernel) rfl (Nat.le_of_ble_eq_true rfl) ?_
  show sw_W E sw_gX m_X10_brings d 0 [(0, .ref 0), (1, .int x1)] [] σ (sw_pI p)
  obtain ⟨q1, hq, h⟩ := sw_bnd h
  refine B_X10_brings_0  (FC_X10_isSheep (Nat.le_refl _) hq) (Nat.lt_of_lt_of_le (by decide) hd) (fun v s hvs => ?_)
  obtain ⟨hv1, hv2⟩ := hvs; subst hv1; subst hv2
  refine B_X10_brings_5  (fun hc => ?_) (fun hc => ?_)
  · rw [if_pos hc] at h
    refine B_X10_brings_23  ?_
    exact SC_X10_brings_24 hd h
  · rw [if_neg hc] at h
    obtain ⟨q2, hq, h⟩ := sw_bnd h
    refine B_X10_brings_8  (FC_X2_worthOf (Nat.le_refl _) hq) (Nat.lt_of_lt_of_le (by decide) hd) (fun v s hvs => ?_)
    obtain ⟨hv1, hv2⟩ := hvs; subst hv1; subst hv2
    refine B_X10_brings_20  ?_
    exact SC_X10_brings_24 hd h
/-! StrayWool.shear(I)I -/
noncomputable def S_X10_shear_20 (σ : sw_St) : Option (Int32 × sw_St) :=
  (F_X10_refuse σ 2).bind fun q1 => some (q1.1, q1.2)
theorem SC_X10_shear_20 {E : sw_E} {d : Nat} (hd : 4 ≤ d) {p : Int32 × sw_St} {σ : sw_St} (h : S_X10_shear_20 σ  = some p) : sw_W E sw_gX m_X10_shear d 20 [(0, .ref 0)] [] σ (sw_pI p) := by
  unfold S_X10_shear_20 at h
  obtain ⟨q1, hq, h⟩ := sw_bnd h
  refine B_X10_shear_20  (FC_X10_refuse (Nat.le_refl _) hq) (Nat.lt_of_lt_of_le (by decide) hd) (fun v s hvs => ?_)
  obtain ⟨hv1, hv2⟩ := hvs; subst hv1; subst hv2
  cases h
  exact B_X10_shear_25  ⟨_, rfl, rfl, rfl⟩
noncomputable def F_X10_shear (σ : sw_St) (x1 : Int32) : Option (Int32 × sw_St) :=
  (F_X10_isSheep σ x1).bind fun q1 => if q1.1 = 0 then (S_X10_shear_20 q1.2 ) else (if sw_inb x1 6 = true then (if (q1.2.1 40 x1.toNatClampNeg) = 0 then (S_X10_shear_20 q1.2 ) else ((F_X4_remember q1.2 38).bind fun q3 => (F_X2_worthOf q3.2 38 x1).bind fun q4 => (F_J9_min_7cf53 q4.2 99999 ((q4.2.1 38 1) + q4.1)).bind fun q5 => if sw_inb x1 6 = true then (if sw_inb x1 6 = true then (if sw_inb x1 6 = true then (some (q4.1, (sw_uI (sw_uI (sw_uI (sw_uI q5.2 38 1 q5.1) 40 x1.toNatClampNeg 0) 41 x1.toNatClampNeg 0) 42 x1.toNatClampNeg 0))) else none) else none) else none)) else none)
theorem FC_X10_shear {E : sw_E} {d : Nat} (hd : 4 ≤ d) {p : Int32 × sw_St} {σ : sw_St} {x1 : Int32} (h : F_X10_shear σ x1 = some p) : sw_KI E sw_gX m_X10_shear d [.ref 0, .int x1] σ (fun v s => v = p.1 ∧ s = p.2) := by
  unfold F_X10_shear at h
  refine sw_K.of (by decide +kernel) rfl (Nat.le_of_ble_eq_true rfl) ?_
  show sw_W E sw_gX m_X10_shear d 0 [(0, .ref 0), (1, .int x1)] [] σ (sw_pI p)
  obtain ⟨q1, hq, h⟩ := sw_bnd h
  refine B_X10_shear_0  (FC_X10_isSheep (Nat.le_refl _) hq) (Nat.lt_of_lt_of_le (by decide) hd) (fun v s hvs => ?_)
  obtain ⟨hv1, hv2⟩ := hvs; subst hv1; subst hv2
  refine B_X10_shear_5  (fun hc => ?_) (fun hc => ?_)
  · rw [if_pos hc] at h
    exact SC_X10_shear_20 hd h
  · rw [if_neg hc] at h
    obtain ⟨o2, h⟩ := sw_ifs h
    refine B_X10_shear_8 (sw_inb_sp o2) (fun hc => ?_) (fun hc => ?_)
    · rw [if_neg hc] at h
      obtain ⟨q3, hq, h⟩ := sw_bnd h
      refine B_X10_shear_26  (FC_X4_remember (Nat.le_refl _) hq) (Nat.lt_of_lt_of_le (by decide) hd) (fun s hvs => ?_)
      subst hvs
      obtain ⟨q4, hq, h⟩ := sw_bnd h
      refine B_X10_shear_37  (FC_X2_worthOf (Nat.le_refl _) hq) (Nat.lt_of_lt_of_le (by decide) hd) (fun v s hvs => ?_)
      obtain ⟨hv1, hv2⟩ := hvs; subst hv1; subst hv2
      obtain ⟨q5, hq, h⟩ := sw_bnd h
      refine B_X10_shear_49  (FC_J9_min_7cf53 (Nat.le_refl _) hq) (Nat.lt_of_lt_of_le (by decide) hd) (fun v s hvs => ?_)
      obtain ⟨hv1, hv2⟩ := hvs; subst hv1; subst hv2
      obtain ⟨o6, h⟩ := sw_ifs h
      obtain ⟨o7, h⟩ := sw_ifs h
      obtain ⟨o8, h⟩ := sw_ifs h
      cases h
      exact B_X10_shear_69 (sw_inb_sp o6) (sw_inb_sp o7) (sw_inb_sp o8) ⟨_, rfl, rfl, rfl⟩
    · rw [if_pos hc] at h
      exact SC_X10_shear_20 hd h
/-! StrayWool$Hill.luring(LStrayWool$State;II[II)I -/
noncomputable def S_X2_luring_147 (σ : sw_St) (x7 : Int32) : Option (Int32 × sw_St) :=
  some (x7, σ)
theorem SC_X2_luring_147 {E : sw_E} {d : Nat} (hd : 4 ≤ d) {p : Int32 × sw_St} {σ : sw_St} {x7 : Int32} (h : S_X2_luring_147 σ x7 = some p) : sw_W E sw_gX m_X2_luring d 147 [(7, .int x7)] [] σ (sw_pI p) := by
  unfold S_X2_luring_147 at h
  cases h
  exact B_X2_luring_147  ⟨_, rfl, rfl, rfl⟩
noncomputable def S_X2_luring_141 (c45 : sw_St → Nat → Int32 → Int32 → Nat → Int32 → Int32 → Int32 → Int32 → Option (Int32 × sw_St)) (σ : sw_St) (o1 : Nat) (x2 : Int32) (x3 : Int32) (o4 : Nat) (x5 : Int32) (x6 : Int32) (x7 : Int32) (x8 : Int32) : Option (Int32 × sw_St) :=
  c45 σ o1 x2 x3 o4 x5 x6 x7 (x8 + 1)
theorem SC_X2_luring_141 {E : sw_E} {d : Nat} (hd : 4 ≤ d) {p : Int32 × sw_St} {c45 : sw_St → Nat → Int32 → Int32 → Nat → Int32 → Int32 → Int32 → Int32 → Option (Int32 × sw_St)} (h45 : ∀ (σ : sw_St) (o1 : Nat) (x2 : Int32) (x3 : Int32) (o4 : Nat) (x5 : Int32) (x6 : Int32) (x7 : Int32) (x8 : Int32), c45 σ o1 x2 x3 o4 x5 x6 x7 x8 = some p → sw_W E sw_gX m_X2_luring d 45 [(0, .ref 33), (1, .ref o1), (2, .int x2), (3, .int x3), (4, .ref o4), (5, .int x5), (6, .int x6), (7, .int x7), (8, .int x8)] [] σ (sw_pI p)) {σ : sw_St} {o1 : Nat} {x2 : Int32} {x3 : Int32} {o4 : Nat} {x5 : Int32} {x6 : Int32} {x7 : Int32} {x8 : Int32} (h : S_X2_luring_141 c45 σ o1 x2 x3 o4 x5 x6 x7 x8 = some p) : sw_W E sw_gX m_X2_luring d 141 [(0, .ref 33), (1, .ref o1), (2, .int x2), (3, .int x3), (4, .ref o4), (5, .int x5), (6, .int x6), (7, .int x7), (8, .int x8)] [] σ (sw_pI p) := by
  unfold S_X2_luring_141 at h
  refine B_X2_luring_141  ?_
  exact h45 _ _ _ _ _ _ _ _ _ h
noncomputable def S_X2_luring_138 (c45 : sw_St → Nat → Int32 → Int32 → Nat → Int32 → Int32 → Int32 → Int32 → Option (Int32 × sw_St)) (σ : sw_St) (o1 : Nat) (x2 : Int32) (x3 : Int32) (o4 : Nat) (x5 : Int32) (x6 : Int32) (x8 : Int32) (sx0 : Int32) (sx1 : Int32) : Option (Int32 × sw_St) :=
  S_X2_luring_141 c45 σ o1 x2 x3 o4 x5 x6 (sx1 ||| sx0) x8
theorem SC_X2_luring_138 {E : sw_E} {d : Nat} (hd : 4 ≤ d) {p : Int32 × sw_St} {c45 : sw_St → Nat → Int32 → Int32 → Nat → Int32 → Int32 → Int32 → Int32 → Option (Int32 × sw_St)} (h45 : ∀ (σ : sw_St) (o1 : Nat) (x2 : Int32) (x3 : Int32) (o4 : Nat) (x5 : Int32) (x6 : Int32) (x7 : Int32) (x8 : Int32), c45 σ o1 x2 x3 o4 x5 x6 x7 x8 = some p → sw_W E sw_gX m_X2_luring d 45 [(0, .ref 33), (1, .ref o1), (2, .int x2), (3, .int x3), (4, .ref o4), (5, .int x5), (6, .int x6), (7, .int x7), (8, .int x8)] [] σ (sw_pI p)) {σ : sw_St} {o1 : Nat} {x2 : Int32} {x3 : Int32} {o4 : Nat} {x5 : Int32} {x6 : Int32} {x8 : Int32} {sx0 : Int32} {sx1 : Int32} (h : S_X2_luring_138 c45 σ o1 x2 x3 o4 x5 x6 x8 sx0 sx1 = some p) : sw_W E sw_gX m_X2_luring d 138 [(0, .ref 33), (1, .ref o1), (2, .int x2), (3, .int x3), (4, .ref o4), (5, .int x5), (6, .int x6), (8, .int x8)] [.int sx0, .int sx1] σ (sw_pI p) := by
  unfold S_X2_luring_138 at h
  refine B_X2_luring_138  ?_
  exact SC_X2_luring_141 hd h45 h
noncomputable def S_X2_luring_137 (c45 : sw_St → Nat → Int32 → Int32 → Nat → Int32 → Int32 → Int32 → Int32 → Option (Int32 × sw_St)) (σ : sw_St) (o1 : Nat) (x2 : Int32) (x3 : Int32) (o4 : Nat) (x5 : Int32) (x6 : Int32) (x8 : Int32) (sx0 : Int32) : Option (Int32 × sw_St) :=
  S_X2_luring_138 c45 σ o1 x2 x3 o4 x5 x6 x8 0 sx0
theorem SC_X2_luring_137 {E : sw_E} {d : Nat} (hd : 4 ≤ d) {p : Int32 × sw_St} {c45 : sw_St → Nat → Int32 → Int32 → Nat → Int32 → Int32 → Int32 → Int32 → Option (Int32 × sw_St)} (h45 : ∀ (σ : sw_St) (o1 : Nat) (x2 : Int32) (x3 : Int32) (o4 : Nat) (x5 : Int32) (x6 : Int32) (x7 : Int32) (x8 : Int32), c45 σ o1 x2 x3 o4 x5 x6 x7 x8 = some p → sw_W E sw_gX m_X2_luring d 45 [(0, .ref 33), (1, .ref o1), (2, .int x2), (3, .int x3), (4, .ref o4), (5, .int x5), (6, .int x6), (7, .int x7), (8, .int x8)] [] σ (sw_pI p)) {σ : sw_St} {o1 : Nat} {x2 : Int32} {x3 : Int32} {o4 : Nat} {x5 : Int32} {x6 : Int32} {x8 : Int32} {sx0 : Int32} (h : S_X2_luring_137 c45 σ o1 x2 x3 o4 x5 x6 x8 sx0 = some p) : sw_W E sw_gX m_X2_luring d 137 [(0, .ref 33), (1, .ref o1), (2, .int x2), (3, .int x3), (4, .ref o4), (5, .int x5), (6, .int x6), (8, .int x8)] [.int sx0] σ (sw_pI p) := by
  unfold S_X2_luring_137 at h
  refine B_X2_luring_137  ?_
  exact SC_X2_luring_138 hd h45 h
noncomputable def S_X2_luring_130 (c45 : sw_St → Nat → Int32 → Int32 → Nat → Int32 → Int32 → Int32 → Int32 → Option (Int32 × sw_St)) (σ : sw_St) (o1 : Nat) (x2 : Int32) (x3 : Int32) (o4 : Nat) (x5 : Int32) (x6 : Int32) (x8 : Int32) (sx0 : Int32) : Option (Int32 × sw_St) :=
  S_X2_luring_138 c45 σ o1 x2 x3 o4 x5 x6 x8 ((1 : Int32) <<< (x8 &&& 31)) sx0
theorem SC_X2_luring_130 {E : sw_E} {d : Nat} (hd : 4 ≤ d) {p : Int32 × sw_St} {c45 : sw_St → Nat → Int32 → Int32 → Nat → Int32 → Int32 → Int32 → Int32 → Option (Int32 × sw_St)} (h45 : ∀ (σ : sw_St) (o1 : Nat) (x2 : Int32) (x3 : Int32) (o4 : Nat) (x5 : Int32) (x6 : Int32) (x7 : Int32) (x8 : Int32), c45 σ o1 x2 x3 o4 x5 x6 x7 x8 = some p → sw_W E sw_gX m_X2_luring d 45 [(0, .ref 33), (1, .ref o1), (2, .int x2), (3, .int x3), (4, .ref o4), (5, .int x5), (6, .int x6), (7, .int x7), (8, .int x8)] [] σ (sw_pI p)) {σ : sw_St} {o1 : Nat} {x2 : Int32} {x3 : Int32} {o4 : Nat} {x5 : Int32} {x6 : Int32} {x8 : Int32} {sx0 : Int32} (h : S_X2_luring_130 c45 σ o1 x2 x3 o4 x5 x6 x8 sx0 = some p) : sw_W E sw_gX m_X2_luring d 130 [(0, .ref 33), (1, .ref o1), (2, .int x2), (3, .int x3), (4, .ref o4), (5, .int x5), (6, .int x6), (8, .int x8)] [.int sx0] σ (sw_pI p) := by
  unfold S_X2_luring_130 at h
  refine B_X2_luring_130  ?_
  exact SC_X2_luring_138 hd h45 h
noncomputable def S_X2_luring_45 (c45 : sw_St → Nat → Int32 → Int32 → Nat → Int32 → Int32 → Int32 → Int32 → Option (Int32 × sw_St)) (σ : sw_St) (o1 : Nat) (x2 : Int32) (x3 : Int32) (o4 : Nat) (x5 : Int32) (x6 : Int32) (x7 : Int32) (x8 : Int32) : Option (Int32 × sw_St) :=
  (σ.2.2 33 0).bind fun w1 => (if sw_isO sw_gX w1 9 = true then (if (σ.1 w1 2) ≤ x8 then (S_X2_luring_147 σ x7) else (if (sw_isA sw_gX o4 0 || sw_isA sw_gX o4 1 || sw_isA sw_gX o4 2 || sw_isA sw_gX o4 3) = true then (if (nI (sw_ln sw_gX o4)) ≤ (x5 + x8) then (S_X2_luring_147 σ x7) else ((σ.2.2 33 0).bind fun w4 => (if sw_isO sw_gX w4 9 = true then ((F_X9_beyond σ w4 x8 x6).bind fun q5 => if q5.1 = (-1) then (S_X2_luring_141 c45 q5.2 o1 x2 x3 o4 x5 x6 x7 x8) else (if ((x3 >>> (x8 &&& 31)) &&& 1) = 0 then (S_X2_luring_141 c45 q5.2 o1 x2 x3 o4 x5 x6 x7 x8) else ((F_X2_pullBy q5.2 o1 x2 x8 q5.1).bind fun q7 => if sw_isA sw_gX o4 0 = true then (if sw_inb (x5 + x8) (sw_ln sw_gX o4) = true then (if sw_isA sw_gX o4 0 = true then (if sw_inb (x5 + x8) (sw_ln sw_gX o4) = true then (if ((sw_uI q7.2 o4 (x5 + x8).toNatClampNeg q7.1).1 o4 ((x5 + x8).toNatClampNeg)) ≤ 0 then (S_X2_luring_137 c45 (sw_uI q7.2 o4 (x5 + x8).toNatClampNeg q7.1) o1 x2 x3 o4 x5 x6 x8 x7) else (S_X2_luring_130 c45 (sw_uI q7.2 o4 (x5 + x8).toNatClampNeg q7.1) o1 x2 x3 o4 x5 x6 x8 x7)) else none) else none) else none) else none))) else none))) else none)) else none)
theorem SC_X2_luring_45 {E : sw_E} {d : Nat} (hd : 4 ≤ d) {p : Int32 × sw_St} {c45 : sw_St → Nat → Int32 → Int32 → Nat → Int32 → Int32 → Int32 → Int32 → Option (Int32 × sw_St)} (h45 : ∀ (σ : sw_St) (o1 : Nat) (x2 : Int32) (x3 : Int32) (o4 : Nat) (x5 : Int32) (x6 : Int32) (x7 : Int32) (x8 : Int32), c45 σ o1 x2 x3 o4 x5 x6 x7 x8 = some p → sw_W E sw_gX m_X2_luring d 45 [(0, .ref 33), (1, .ref o1), (2, .int x2), (3, .int x3), (4, .ref o4), (5, .int x5), (6, .int x6), (7, .int x7), (8, .int x8)] [] σ (sw_pI p)) {σ : sw_St} {o1 : Nat} {x2 : Int32} {x3 : Int32} {o4 : Nat} {x5 : Int32} {x6 : Int32} {x7 : Int32} {x8 : Int32} (h : S_X2_luring_45 c45 σ o1 x2 x3 o4 x5 x6 x7 x8 = some p) : sw_W E sw_gX m_X2_luring d 45 [(0, .ref 33), (1, .ref o1), (2, .int x2), (3, .int x3), (4, .ref o4), (5, .int x5), (6, .int x6), (7, .int x7), (8, .int x8)] [] σ (sw_pI p) := by
  unfold S_X2_luring_45 at h
  obtain ⟨w1, ow1, h⟩ := sw_bnd h
  obtain ⟨o2, h⟩ := sw_ifs h
  refine B_X2_luring_45 ow1 o2 (fun hc => ?_) (fun hc => ?_)
  · rw [if_pos hc] at h
    exact SC_X2_luring_147 hd h
  · rw [if_neg hc] at h
    obtain ⟨o3, h⟩ := sw_ifs h
    refine B_X2_luring_57 o3 (fun hc => ?_) (fun hc => ?_)
    · rw [if_pos hc] at h
      exact SC_X2_luring_147 hd h
    · rw [if_neg hc] at h
      obtain ⟨w4, ow4, h⟩ := sw_bnd h
      obtain ⟨o6, h⟩ := sw_ifs h
      obtain ⟨q5, hq, h⟩ := sw_bnd h
      refine B_X2_luring_68 ow4 (FC_X9_beyond (Nat.le_refl _) hq) (Nat.lt_of_lt_of_le (by decide) hd) (fun v s hvs => ?_) o6
      obtain ⟨hv1, hv2⟩ := hvs; subst hv1; subst hv2
      refine B_X2_luring_79  (fun hc => ?_) (fun hc => ?_)
      · rw [if_pos hc] at h
        exact SC_X2_luring_141 hd h45 h
      · rw [if_neg hc] at h
        refine B_X2_luring_87  (fun hc => ?_) (fun hc => ?_)
        · rw [if_neg hc] at h
          obtain ⟨q7, hq, h⟩ := sw_bnd h
          refine B_X2_luring_99  (FC_X2_pullBy (Nat.le_refl _) hq) (Nat.lt_of_lt_of_le (by decide) hd) (fun v s hvs => ?_)
          obtain ⟨hv1, hv2⟩ := hvs; subst hv1; subst hv2
          obtain ⟨o8, h⟩ := sw_ifs h
          obtain ⟨o9, h⟩ := sw_ifs h
          obtain ⟨o10, h⟩ := sw_ifs h
          obtain ⟨o11, h⟩ := sw_ifs h
          refine B_X2_luring_116 o8 (sw_inb_sp o9) o10 (sw_inb_sp o11) (fun hc => ?_) (fun hc => ?_)
          · rw [if_pos hc] at h
            exact SC_X2_luring_137 hd h45 h
          · rw [if_neg hc] at h
            exact SC_X2_luring_130 hd h45 h
        · rw [if_pos hc] at h
          refine B_X2_luring_96  ?_
          exact SC_X2_luring_141 hd h45 h
noncomputable def L_X2_luring_45 : Nat → sw_St → Nat → Int32 → Int32 → Nat → Int32 → Int32 → Int32 → Int32 → Option (Int32 × sw_St)
  | 0, _, _, _, _, _, _, _, _, _ => none
  | k + 1, σ, o1, x2, x3, o4, x5, x6, x7, x8 => S_X2_luring_45 (fun σ o1 x2 x3 o4 x5 x6 x7 x8 => L_X2_luring_45 k σ o1 x2 x3 o4 x5 x6 x7 x8) σ o1 x2 x3 o4 x5 x6 x7 x8
theorem LC_X2_luring_45 {E : sw_E} {d : Nat} (hd : 4 ≤ d) {p : Int32 × sw_St} : ∀ (k : Nat) (σ : sw_St) (o1 : Nat) (x2 : Int32) (x3 : Int32) (o4 : Nat) (x5 : Int32) (x6 : Int32) (x7 : Int32) (x8 : Int32), L_X2_luring_45 k σ o1 x2 x3 o4 x5 x6 x7 x8 = some p → sw_W E sw_gX m_X2_luring d 45 [(0, .ref 33), (1, .ref o1), (2, .int x2), (3, .int x3), (4, .ref o4), (5, .int x5), (6, .int x6), (7, .int x7), (8, .int x8)] [] σ (sw_pI p) := by
  intro k
  induction k with
  | zero => intro σ o1 x2 x3 o4 x5 x6 x7 x8 h; cases h
  | succ k ih => intro σ o1 x2 x3 o4 x5 x6 x7 x8 h; exact SC_X2_luring_45 hd ih h
noncomputable def F_X2_luring (σ : sw_St) (o1 : Nat) (x2 : Int32) (x3 : Int32) (o4 : Nat) (x5 : Int32) : Option (Int32 × sw_St) :=
  if sw_isO sw_gX o1 8 = true then (if sw_isA sw_gX (o1 + 1) 0 = true then (if sw_inb x2 (sw_ln sw_gX (o1 + 1)) = true then ((F_X2_setSheep σ o1 x2).bind fun q4 => (F_X2_setField q4.2 o1 x2 (σ.1 (o1 + 1) x2.toNatClampNeg)).bind fun q5 => (q5.2.2.2 33 0).bind fun w6 => ((F_X7_run q5.2 w6 1).bind fun q7 => if q7.1 = 0 then (L_X2_luring_45 sw_fuel q7.2 o1 x2 x3 o4 x5 (σ.1 (o1 + 1) x2.toNatClampNeg) 0 0) else (some (0, q7.2)))) else none) else none) else none
theorem FC_X2_luring {E : sw_E} {d : Nat} (hd : 4 ≤ d) {p : Int32 × sw_St} {σ : sw_St} {o1 : Nat} {x2 : Int32} {x3 : Int32} {o4 : Nat} {x5 : Int32} (h : F_X2_luring σ o1 x2 x3 o4 x5 = some p) : sw_KI E sw_gX m_X2_luring d [.ref 33, .ref o1, .int x2, .int x3, .ref o4, .int x5] σ (fun v s => v = p.1 ∧ s = p.2) := by
  unfold F_X2_luring at h
  refine sw_K.of (by decide +kernel) rfl (Nat.le_of_ble_eq_true rfl) ?_
  show sw_W E sw_gX m_X2_luring d 0 [(0, .ref 33), (1, .ref o1), (2, .int x2), (3, .int x3), (4, .ref o4), (5, .int x5)] [] σ (sw_pI p)
  obtain ⟨o1, h⟩ := sw_ifs h
  obtain ⟨o2, h⟩ := sw_ifs h
  obtain ⟨o3, h⟩ := sw_ifs h
  obtain ⟨q4, hq, h⟩ := sw_bnd h
  refine B_X2_luring_0 o1 o2 (sw_inb_sp o3) (FC_X2_setSheep (Nat.le_refl _) hq) (Nat.lt_of_lt_of_le (by decide) hd) (fun s hvs => ?_)
  subst hvs
  obtain ⟨q5, hq, h⟩ := sw_bnd h
  refine B_X2_luring_14  (FC_X2_setField (Nat.le_refl _) hq) (Nat.lt_of_lt_of_le (by decide) hd) (fun s hvs => ?_)
  subst hvs
  obtain ⟨w6, ow6, h⟩ := sw_bnd h
  obtain ⟨q7, hq, h⟩ := sw_bnd h
  refine B_X2_luring_22 ow6 (FC_X7_run (Nat.le_refl _) hq) (Nat.lt_of_lt_of_le (by decide) hd) (fun v s hvs => ?_)
  obtain ⟨hv1, hv2⟩ := hvs; subst hv1; subst hv2
  refine B_X2_luring_34  (fun hc => ?_) (fun hc => ?_)
  · rw [if_pos hc] at h
    refine B_X2_luring_39  ?_
    exact LC_X2_luring_45 hd _ _ _ _ _ _ _ _ _ _ h
  · rw [if_neg hc] at h
    cases h
    exact B_X2_luring_37  ⟨_, rfl, rfl, rfl⟩

noncomputable def R_pg : Nat → Nat → sw_St → Int32 → Option (Int32 × sw_St)
  | 0, _, _, _ => none
  | k + 1, w, σ, x => match w with
    | 0 => F_X3_test (R_pg k) σ x
    | 1 => F_X3_both (R_pg k) σ x
    | 2 => F_X3_fact (R_pg k) σ x
    | 3 => F_X3_sum (R_pg k) σ x
    | 4 => F_X3_product (R_pg k) σ x
    | _ => F_X3_part (R_pg k) σ x
theorem RC_pg {E : sw_E} : ∀ k : Nat, sw_pgH E (R_pg k) (7 + k) := by
  intro k
  induction k with
  | zero => exact ⟨fun _ _ _ h => (by cases h), fun _ _ _ h => (by cases h), fun _ _ _ h => (by cases h), fun _ _ _ h => (by cases h), fun _ _ _ h => (by cases h), fun _ _ _ h => (by cases h)⟩
  | succ k ih => exact ⟨fun _ _ _ h => FC_X3_test (by omega) ih (by omega) (by rw [R_pg] at h; exact h), fun _ _ _ h => FC_X3_both (by omega) ih (by omega) (by rw [R_pg] at h; exact h), fun _ _ _ h => FC_X3_fact (by omega) ih (by omega) (by rw [R_pg] at h; exact h), fun _ _ _ h => FC_X3_sum (by omega) ih (by omega) (by rw [R_pg] at h; exact h), fun _ _ _ h => FC_X3_product (by omega) ih (by omega) (by rw [R_pg] at h; exact h), fun _ _ _ h => FC_X3_part (by omega) ih (by omega) (by
      rw [R_pg] at h
      · exact h
      all_goals decide)⟩
theorem RC_pg0 {E : sw_E} (σ : sw_St) (x : Int32) (p : Int32 × sw_St) (h : R_pg sw_depth 0 σ x = some p) : sw_KI E sw_gX m_X3_test 67 [.ref 32, .int x] σ (fun v s => v = p.1 ∧ s = p.2) := (RC_pg sw_depth).1 σ x p h
theorem RC_pg1 {E : sw_E} (σ : sw_St) (x : Int32) (p : Int32 × sw_St) (h : R_pg sw_depth 1 σ x = some p) : sw_KI E sw_gX m_X3_both 67 [.ref 32, .int x] σ (fun v s => v = p.1 ∧ s = p.2) := (RC_pg sw_depth).2.1 σ x p h
theorem RC_pg2 {E : sw_E} (σ : sw_St) (x : Int32) (p : Int32 × sw_St) (h : R_pg sw_depth 2 σ x = some p) : sw_KI E sw_gX m_X3_fact 67 [.ref 32, .int x] σ (fun v s => v = p.1 ∧ s = p.2) := (RC_pg sw_depth).2.2.1 σ x p h
theorem RC_pg3 {E : sw_E} (σ : sw_St) (x : Int32) (p : Int32 × sw_St) (h : R_pg sw_depth 3 σ x = some p) : sw_KI E sw_gX m_X3_sum 67 [.ref 32, .int x] σ (fun v s => v = p.1 ∧ s = p.2) := (RC_pg sw_depth).2.2.2.1 σ x p h
theorem RC_pg4 {E : sw_E} (σ : sw_St) (x : Int32) (p : Int32 × sw_St) (h : R_pg sw_depth 4 σ x = some p) : sw_KI E sw_gX m_X3_product 67 [.ref 32, .int x] σ (fun v s => v = p.1 ∧ s = p.2) := (RC_pg sw_depth).2.2.2.2.1 σ x p h
theorem RC_pg5 {E : sw_E} (σ : sw_St) (x : Int32) (p : Int32 × sw_St) (h : R_pg sw_depth 5 σ x = some p) : sw_KI E sw_gX m_X3_part 67 [.ref 32, .int x] σ (fun v s => v = p.1 ∧ s = p.2) := (RC_pg sw_depth).2.2.2.2.2 σ x p h
/-! StrayWool$Parser.readQuestion([BILStrayWool$Code;)I -/
noncomputable def S_X3_readQuestion_49 (σ : sw_St) : Option (Int32 × sw_St) :=
  (F_X6_fail σ 1 (σ.1 2 3)).bind fun q1 => some ((-1), q1.2)
theorem SC_X3_readQuestion_49 {E : sw_E} {d : Nat} (hd : 68 ≤ d) {p : Int32 × sw_St} {σ : sw_St} (h : S_X3_readQuestion_49 σ  = some p) : sw_W E sw_gX m_X3_readQuestion d 49 [(0, .ref 32)] [] σ (sw_pI p) := by
  unfold S_X3_readQuestion_49 at h
  obtain ⟨q1, hq, h⟩ := sw_bnd h
  refine B_X3_readQuestion_49  (FC_X6_fail (Nat.le_refl _) hq) (Nat.lt_of_lt_of_le (by decide) hd) (fun v s hvs => ?_)
  obtain ⟨hv1, hv2⟩ := hvs; subst hv1; subst hv2
  cases h
  exact B_X3_readQuestion_64  ⟨_, rfl, rfl, rfl⟩
noncomputable def S_X3_readQuestion_121 (σ : sw_St) (sx0 : Int32) : Option (Int32 × sw_St) :=
  some (sx0, σ)
theorem SC_X3_readQuestion_121 {E : sw_E} {d : Nat} (hd : 68 ≤ d) {p : Int32 × sw_St} {σ : sw_St} {sx0 : Int32} (h : S_X3_readQuestion_121 σ sx0 = some p) : sw_W E sw_gX m_X3_readQuestion d 121 [] [.int sx0] σ (sw_pI p) := by
  unfold S_X3_readQuestion_121 at h
  cases h
  exact B_X3_readQuestion_121  ⟨_, rfl, rfl, rfl⟩
noncomputable def S_X3_readQuestion_120 (σ : sw_St) : Option (Int32 × sw_St) :=
  S_X3_readQuestion_121 σ (-1)
theorem SC_X3_readQuestion_120 {E : sw_E} {d : Nat} (hd : 68 ≤ d) {p : Int32 × sw_St} {σ : sw_St} (h : S_X3_readQuestion_120 σ  = some p) : sw_W E sw_gX m_X3_readQuestion d 120 [] [] σ (sw_pI p) := by
  unfold S_X3_readQuestion_120 at h
  refine B_X3_readQuestion_120  ?_
  exact SC_X3_readQuestion_121 hd h
noncomputable def S_X3_readQuestion_95 (σ : sw_St) (x4 : Int32) (sx0 : Int32) : Option (Int32 × sw_St) :=
  if sx0 = 0 then (S_X3_readQuestion_120 σ ) else ((F_X6_expect σ 301).bind fun q1 => if q1.1 = 0 then (S_X3_readQuestion_120 q1.2 ) else (S_X3_readQuestion_121 q1.2 x4))
theorem SC_X3_readQuestion_95 {E : sw_E} {d : Nat} (hd : 68 ≤ d) {p : Int32 × sw_St} {σ : sw_St} {x4 : Int32} {sx0 : Int32} (h : S_X3_readQuestion_95 σ x4 sx0 = some p) : sw_W E sw_gX m_X3_readQuestion d 95 [(0, .ref 32), (4, .int x4)] [.int sx0] σ (sw_pI p) := by
  unfold S_X3_readQuestion_95 at h
  refine B_X3_readQuestion_95  (fun hc => ?_) (fun hc => ?_)
  · rw [if_pos hc] at h
    exact SC_X3_readQuestion_120 hd h
  · rw [if_neg hc] at h
    obtain ⟨q1, hq, h⟩ := sw_bnd h
    refine B_X3_readQuestion_102  (FC_X6_expect (Nat.le_refl _) hq) (Nat.lt_of_lt_of_le (by decide) hd) (fun v s hvs => ?_)
    obtain ⟨hv1, hv2⟩ := hvs; subst hv1; subst hv2
    refine B_X3_readQuestion_112  (fun hc => ?_) (fun hc => ?_)
    · rw [if_pos hc] at h
      exact SC_X3_readQuestion_120 hd h
    · rw [if_neg hc] at h
      refine B_X3_readQuestion_115  ?_
      exact SC_X3_readQuestion_121 hd h
noncomputable def S_X3_readQuestion_41 (σ : sw_St) (x4 : Int32) : Option (Int32 × sw_St) :=
  if x4 ≤ 286 then ((F_X6_advance σ ).bind fun q1 => if 283 < x4 then ((R_pg sw_depth 3 q1.2 0).bind fun q2 => S_X3_readQuestion_95 q2.2 x4 q2.1) else ((R_pg sw_depth 0 q1.2 0).bind fun q3 => S_X3_readQuestion_95 q3.2 x4 q3.1)) else (S_X3_readQuestion_49 σ )
theorem SC_X3_readQuestion_41 {E : sw_E} {d : Nat} (hd : 68 ≤ d) {p : Int32 × sw_St} {σ : sw_St} {x4 : Int32} (h : S_X3_readQuestion_41 σ x4 = some p) : sw_W E sw_gX m_X3_readQuestion d 41 [(0, .ref 32), (4, .int x4)] [] σ (sw_pI p) := by
  unfold S_X3_readQuestion_41 at h
  refine B_X3_readQuestion_41  (fun hc => ?_) (fun hc => ?_)
  · rw [if_pos hc] at h
    obtain ⟨q1, hq, h⟩ := sw_bnd h
    refine B_X3_readQuestion_67  (FC_X6_advance (Nat.le_refl _) hq) (Nat.lt_of_lt_of_le (by decide) hd) (fun s hvs => ?_)
    subst hvs
    refine B_X3_readQuestion_74  (fun hc => ?_) (fun hc => ?_)
    · rw [if_pos hc] at h
      obtain ⟨q2, hq, h⟩ := sw_bnd h
      refine B_X3_readQuestion_90  (RC_pg3 _ _ _ hq) (Nat.lt_of_lt_of_le (by decide) hd) (fun v s hvs => ?_)
      obtain ⟨hv1, hv2⟩ := hvs; subst hv1; subst hv2
      exact SC_X3_readQuestion_95 hd h
    · rw [if_neg hc] at h
      obtain ⟨q3, hq, h⟩ := sw_bnd h
      refine B_X3_readQuestion_82  (RC_pg0 _ _ _ hq) (Nat.lt_of_lt_of_le (by decide) hd) (fun v s hvs => ?_)
      obtain ⟨hv1, hv2⟩ := hvs; subst hv1; subst hv2
      refine B_X3_readQuestion_87  ?_
      exact SC_X3_readQuestion_95 hd h
  · rw [if_neg hc] at h
    exact SC_X3_readQuestion_49 hd h
noncomputable def F_X3_readQuestion (σ : sw_St) (o1 : Nat) (x2 : Int32) (o3 : Nat) : Option (Int32 × sw_St) :=
  (F_X6_open σ o1 x2).bind fun q1 => if sw_isO sw_gX o3 0 = true then (if ((sw_uI q1.2 o3 1 0).1 2 2) < 281 then (S_X3_readQuestion_49 (sw_uI (sw_uR (sw_uI q1.2 o3 1 0) 32 2 (some o3)) 32 3 3) ) else (S_X3_readQuestion_41 (sw_uI (sw_uR (sw_uI q1.2 o3 1 0) 32 2 (some o3)) 32 3 3) ((sw_uI q1.2 o3 1 0).1 2 2))) else none
theorem FC_X3_readQuestion {E : sw_E} {d : Nat} (hd : 68 ≤ d) {p : Int32 × sw_St} {σ : sw_St} {o1 : Nat} {x2 : Int32} {o3 : Nat} (h : F_X3_readQuestion σ o1 x2 o3 = some p) : sw_KI E sw_gX m_X3_readQuestion d [.ref 32, .ref o1, .int x2, .ref o3] σ (fun v s => v = p.1 ∧ s = p.2) := by
  unfold F_X3_readQuestion at h
  refine sw_K.of (by decide +kernel) rfl (Nat.le_of_ble_eq_true rfl) ?_
  show sw_W E sw_gX m_X3_readQuestion d 0 [(0, .ref 32), (1, .ref o1), (2, .int x2), (3, .ref o3)] [] σ (sw_pI p)
  obtain ⟨q1, hq, h⟩ := sw_bnd h
  refine B_X3_readQuestion_0  (FC_X6_open (Nat.le_refl _) hq) (Nat.lt_of_lt_of_le (by decide) hd) (fun s hvs => ?_)
  subst hvs
  obtain ⟨o2, h⟩ := sw_ifs h
  refine B_X3_readQuestion_9 o2 (fun hc => ?_) (fun hc => ?_)
  · rw [if_pos hc] at h
    exact SC_X3_readQuestion_49 hd h
  · rw [if_neg hc] at h
    exact SC_X3_readQuestion_41 hd h
/-! StrayWool$Parser.statement()Z -/
noncomputable def S_X3_statement_187 (σ : sw_St) : Option (Int32 × sw_St) :=
  (F_X6_fail σ 1 (σ.1 2 3)).bind fun q1 => if q1.1 = 0 ∨ q1.1 = 1 then some (q1.1, q1.2) else none
theorem SC_X3_statement_187 {E : sw_E} {d : Nat} (hd : 68 ≤ d) {p : Int32 × sw_St} {σ : sw_St} (h : S_X3_statement_187 σ  = some p) : sw_W E sw_gX m_X3_statement d 187 [(0, .ref 32)] [] σ (sw_pI p) := by
  unfold S_X3_statement_187 at h
  obtain ⟨q1, hq, h⟩ := sw_bnd h
  refine B_X3_statement_187  (FC_X6_fail (Nat.le_refl _) hq) (Nat.lt_of_lt_of_le (by decide) hd) (fun v s hvs => ?_)
  obtain ⟨hv1, hv2⟩ := hvs; subst hv1; subst hv2
  obtain ⟨hz, h⟩ := sw_ifs h
  cases h
  exact B_X3_statement_202  hz ⟨_, rfl, rfl, rfl⟩
noncomputable def S_X3_statement_121 (σ : sw_St) (sx0 : Int32) : Option (Int32 × sw_St) :=
  if sx0 = 0 ∨ sx0 = 1 then some (sx0, σ) else none
theorem SC_X3_statement_121 {E : sw_E} {d : Nat} (hd : 68 ≤ d) {p : Int32 × sw_St} {σ : sw_St} {sx0 : Int32} (h : S_X3_statement_121 σ sx0 = some p) : sw_W E sw_gX m_X3_statement d 121 [] [.int sx0] σ (sw_pI p) := by
  unfold S_X3_statement_121 at h
  obtain ⟨hz, h⟩ := sw_ifs h
  cases h
  exact B_X3_statement_121  hz ⟨_, rfl, rfl, rfl⟩
noncomputable def S_X3_statement_120 (σ : sw_St) : Option (Int32 × sw_St) :=
  S_X3_statement_121 σ 0
theorem SC_X3_statement_120 {E : sw_E} {d : Nat} (hd : 68 ≤ d) {p : Int32 × sw_St} {σ : sw_St} (h : S_X3_statement_120 σ  = some p) : sw_W E sw_gX m_X3_statement d 120 [] [] σ (sw_pI p) := by
  unfold S_X3_statement_120 at h
  refine B_X3_statement_120  ?_
  exact SC_X3_statement_121 hd h
noncomputable def S_X3_statement_151 (σ : sw_St) (sx0 : Int32) : Option (Int32 × sw_St) :=
  if sx0 = 0 ∨ sx0 = 1 then some (sx0, σ) else none
theorem SC_X3_statement_151 {E : sw_E} {d : Nat} (hd : 68 ≤ d) {p : Int32 × sw_St} {σ : sw_St} {sx0 : Int32} (h : S_X3_statement_151 σ sx0 = some p) : sw_W E sw_gX m_X3_statement d 151 [] [.int sx0] σ (sw_pI p) := by
  unfold S_X3_statement_151 at h
  obtain ⟨hz, h⟩ := sw_ifs h
  cases h
  exact B_X3_statement_151  hz ⟨_, rfl, rfl, rfl⟩
noncomputable def S_X3_statement_150 (σ : sw_St) : Option (Int32 × sw_St) :=
  S_X3_statement_151 σ 0
theorem SC_X3_statement_150 {E : sw_E} {d : Nat} (hd : 68 ≤ d) {p : Int32 × sw_St} {σ : sw_St} (h : S_X3_statement_150 σ  = some p) : sw_W E sw_gX m_X3_statement d 150 [] [] σ (sw_pI p) := by
  unfold S_X3_statement_150 at h
  refine B_X3_statement_150  ?_
  exact SC_X3_statement_151 hd h
noncomputable def S_X3_statement_181 (σ : sw_St) (sx0 : Int32) : Option (Int32 × sw_St) :=
  if sx0 = 0 ∨ sx0 = 1 then some (sx0, σ) else none
theorem SC_X3_statement_181 {E : sw_E} {d : Nat} (hd : 68 ≤ d) {p : Int32 × sw_St} {σ : sw_St} {sx0 : Int32} (h : S_X3_statement_181 σ sx0 = some p) : sw_W E sw_gX m_X3_statement d 181 [] [.int sx0] σ (sw_pI p) := by
  unfold S_X3_statement_181 at h
  obtain ⟨hz, h⟩ := sw_ifs h
  cases h
  exact B_X3_statement_181  hz ⟨_, rfl, rfl, rfl⟩
noncomputable def S_X3_statement_180 (σ : sw_St) : Option (Int32 × sw_St) :=
  S_X3_statement_181 σ 0
theorem SC_X3_statement_180 {E : sw_E} {d : Nat} (hd : 68 ≤ d) {p : Int32 × sw_St} {σ : sw_St} (h : S_X3_statement_180 σ  = some p) : sw_W E sw_gX m_X3_statement d 180 [] [] σ (sw_pI p) := by
  unfold S_X3_statement_180 at h
  refine B_X3_statement_180  ?_
  exact SC_X3_statement_181 hd h
noncomputable def F_X3_statement (σ : sw_St) : Option (Int32 × sw_St) :=
  if (σ.1 2 2) = 256 then ((F_X3_fieldStatement σ ).bind fun q1 => if q1.1 = 0 ∨ q1.1 = 1 then some (q1.1, q1.2) else none) else if (σ.1 2 2) = 257 then (S_X3_statement_187 σ ) else if (σ.1 2 2) = 258 then ((F_X3_gapStatement σ ).bind fun q2 => if q2.1 = 0 ∨ q2.1 = 1 then some (q2.1, q2.2) else none) else if (σ.1 2 2) = 259 then (S_X3_statement_187 σ ) else if (σ.1 2 2) = 260 then (S_X3_statement_187 σ ) else if (σ.1 2 2) = 261 then ((F_X3_shutStatement σ ).bind fun q3 => if q3.1 = 0 ∨ q3.1 = 1 then some (q3.1, q3.2) else none) else if (σ.1 2 2) = 262 then ((F_X3_sheepStatement σ ).bind fun q4 => if q4.1 = 0 ∨ q4.1 = 1 then some (q4.1, q4.2) else none) else if (σ.1 2 2) = 263 then (S_X3_statement_187 σ ) else if (σ.1 2 2) = 264 then (S_X3_statement_187 σ ) else if (σ.1 2 2) = 265 then ((F_X3_beginFormula σ 0).bind fun q5 => if q5.1 = 0 then (S_X3_statement_120 q5.2 ) else ((R_pg sw_depth 3 q5.2 0).bind fun q6 => if q6.1 = 0 then (S_X3_statement_120 q6.2 ) else ((F_X3_endFormula q6.2 0).bind fun q7 => if q7.1 = 0 then (S_X3_statement_120 q7.2 ) else (S_X3_statement_121 q7.2 1)))) else if (σ.1 2 2) = 266 then ((F_X3_beginFormula σ 1).bind fun q8 => if q8.1 = 0 then (S_X3_statement_150 q8.2 ) else ((R_pg sw_depth 0 q8.2 0).bind fun q9 => if q9.1 = 0 then (S_X3_statement_150 q9.2 ) else ((F_X3_endFormula q9.2 1).bind fun q10 => if q10.1 = 0 then (S_X3_statement_150 q10.2 ) else (S_X3_statement_151 q10.2 1)))) else if (σ.1 2 2) = 267 then ((F_X3_beginFormula σ 2).bind fun q11 => if q11.1 = 0 then (S_X3_statement_180 q11.2 ) else ((R_pg sw_depth 3 q11.2 0).bind fun q12 => if q12.1 = 0 then (S_X3_statement_180 q12.2 ) else ((F_X3_endFormula q12.2 2).bind fun q13 => if q13.1 = 0 then (S_X3_statement_180 q13.2 ) else (S_X3_statement_181 q13.2 1)))) else if (σ.1 2 2) = 268 then ((F_X3_stormStatement σ ).bind fun q14 => if q14.1 = 0 ∨ q14.1 = 1 then some (q14.1, q14.2) else none) else (S_X3_statement_187 σ )
theorem FC_X3_statement {E : sw_E} {d : Nat} (hd : 68 ≤ d) {p : Int32 × sw_St} {σ : sw_St} (h : F_X3_statement σ  = some p) : sw_KI E sw_gX m_X3_statement d [.ref 32] σ (fun v s => v = p.1 ∧ s = p.2) := by
  unfold F_X3_statement at h
  refine sw_K.of (by decide +kernel) rfl (Nat.le_of_ble_eq_true rfl) ?_
  show sw_W E sw_gX m_X3_statement d 0 [(0, .ref 32)] [] σ (sw_pI p)
  refine B_X3_statement_0  (fun hc => ?_) (fun hc => ?_) (fun hc => ?_) (fun hc => ?_) (fun hc => ?_) (fun hc => ?_) (fun hc => ?_) (fun hc => ?_) (fun hc => ?_) (fun hc => ?_) (fun hc => ?_) (fun hc => ?_) (fun hc => ?_) (fun n0 n1 n2 n3 n4 n5 n6 n7 n8 n9 n10 n11 n12 => ?_)
  · rw [if_pos hc] at h
    obtain ⟨q1, hq, h⟩ := sw_bnd h
    refine B_X3_statement_72  (FC_X3_fieldStatement (Nat.le_refl _) hq) (Nat.lt_of_lt_of_le (by decide) hd) (fun v s hvs => ?_)
    obtain ⟨hv1, hv2⟩ := hvs; subst hv1; subst hv2
    obtain ⟨hz, h⟩ := sw_ifs h
    cases h
    exact B_X3_statement_76  hz ⟨_, rfl, rfl, rfl⟩
  · rw [if_neg (fun z => absurd (hc.symm.trans z) (by decide)), if_pos hc] at h
    exact SC_X3_statement_187 hd h
  · rw [if_neg (fun z => absurd (hc.symm.trans z) (by decide)), if_neg (fun z => absurd (hc.symm.trans z) (by decide)), if_pos hc] at h
    obtain ⟨q2, hq, h⟩ := sw_bnd h
    refine B_X3_statement_77  (FC_X3_gapStatement (Nat.le_refl _) hq) (Nat.lt_of_lt_of_le (by decide) hd) (fun v s hvs => ?_)
    obtain ⟨hv1, hv2⟩ := hvs; subst hv1; subst hv2
    obtain ⟨hz, h⟩ := sw_ifs h
    cases h
    exact B_X3_statement_81  hz ⟨_, rfl, rfl, rfl⟩
  · rw [if_neg (fun z => absurd (hc.symm.trans z) (by decide)), if_neg (fun z => absurd (hc.symm.trans z) (by decide)), if_neg (fun z => absurd (hc.symm.trans z) (by decide)), if_pos hc] at h
    exact SC_X3_statement_187 hd h
  · rw [if_neg (fun z => absurd (hc.symm.trans z) (by decide)), if_neg (fun z => absurd (hc.symm.trans z) (by decide)), if_neg (fun z => absurd (hc.symm.trans z) (by decide)), if_neg (fun z => absurd (hc.symm.trans z) (by decide)), if_pos hc] at h
    exact SC_X3_statement_187 hd h
  · rw [if_neg (fun z => absurd (hc.symm.trans z) (by decide)), if_neg (fun z => absurd (hc.symm.trans z) (by decide)), if_neg (fun z => absurd (hc.symm.trans z) (by decide)), if_neg (fun z => absurd (hc.symm.trans z) (by decide)), if_neg (fun z => absurd (hc.symm.trans z) (by decide)), if_pos hc] at h
    obtain ⟨q3, hq, h⟩ := sw_bnd h
    refine B_X3_statement_82  (FC_X3_shutStatement (Nat.le_refl _) hq) (Nat.lt_of_lt_of_le (by decide) hd) (fun v s hvs => ?_)
    obtain ⟨hv1, hv2⟩ := hvs; subst hv1; subst hv2
    obtain ⟨hz, h⟩ := sw_ifs h
    cases h
    exact B_X3_statement_86  hz ⟨_, rfl, rfl, rfl⟩
  · rw [if_neg (fun z => absurd (hc.symm.trans z) (by decide)), if_neg (fun z => absurd (hc.symm.trans z) (by decide)), if_neg (fun z => absurd (hc.symm.trans z) (by decide)), if_neg (fun z => absurd (hc.symm.trans z) (by decide)), if_neg (fun z => absurd (hc.symm.trans z) (by decide)), if_neg (fun z => absurd (hc.symm.trans z) (by decide)), if_pos hc] at h
    obtain ⟨q4, hq, h⟩ := sw_bnd h
    refine B_X3_statement_87  (FC_X3_sheepStatement (Nat.le_refl _) hq) (Nat.lt_of_lt_of_le (by decide) hd) (fun v s hvs => ?_)
    obtain ⟨hv1, hv2⟩ := hvs; subst hv1; subst hv2
    obtain ⟨hz, h⟩ := sw_ifs h
    cases h
    exact B_X3_statement_91  hz ⟨_, rfl, rfl, rfl⟩
  · rw [if_neg (fun z => absurd (hc.symm.trans z) (by decide)), if_neg (fun z => absurd (hc.symm.trans z) (by decide)), if_neg (fun z => absurd (hc.symm.trans z) (by decide)), if_neg (fun z => absurd (hc.symm.trans z) (by decide)), if_neg (fun z => absurd (hc.symm.trans z) (by decide)), if_neg (fun z => absurd (hc.symm.trans z) (by decide)), if_neg (fun z => absurd (hc.symm.trans z) (by decide)), if_pos hc] at h
    exact SC_X3_statement_187 hd h
  · rw [if_neg (fun z => absurd (hc.symm.trans z) (by decide)), if_neg (fun z => absurd (hc.symm.trans z) (by decide)), if_neg (fun z => absurd (hc.symm.trans z) (by decide)), if_neg (fun z => absurd (hc.symm.trans z) (by decide)), if_neg (fun z => absurd (hc.symm.trans z) (by decide)), if_neg (fun z => absurd (hc.symm.trans z) (by decide)), if_neg (fun z => absurd (hc.symm.trans z) (by decide)), if_neg (fun z => absurd (hc.symm.trans z) (by decide)), if_pos hc] at h
    exact SC_X3_statement_187 hd h
  · rw [if_neg (fun z => absurd (hc.symm.trans z) (by decide)), if_neg (fun z => absurd (hc.symm.trans z) (by decide)), if_neg (fun z => absurd (hc.symm.trans z) (by decide)), if_neg (fun z => absurd (hc.symm.trans z) (by decide)), if_neg (fun z => absurd (hc.symm.trans z) (by decide)), if_neg (fun z => absurd (hc.symm.trans z) (by decide)), if_neg (fun z => absurd (hc.symm.trans z) (by decide)), if_neg (fun z => absurd (hc.symm.trans z) (by decide)), if_neg (fun z => absurd (hc.symm.trans z) (by decide)), if_pos hc] at h
    obtain ⟨q5, hq, h⟩ := sw_bnd h
    refine B_X3_statement_92  (FC_X3_beginFormula (Nat.le_refl _) hq) (Nat.lt_of_lt_of_le (by decide) hd) (fun v s hvs => ?_)
    obtain ⟨hv1, hv2⟩ := hvs; subst hv1; subst hv2
    refine B_X3_statement_97  (fun hc => ?_) (fun hc => ?_)
    · rw [if_pos hc] at h
      exact SC_X3_statement_120 hd h
    · rw [if_neg hc] at h
      obtain ⟨q6, hq, h⟩ := sw_bnd h
      refine B_X3_statement_100  (RC_pg3 _ _ _ hq) (Nat.lt_of_lt_of_le (by decide) hd) (fun v s hvs => ?_)
      obtain ⟨hv1, hv2⟩ := hvs; subst hv1; subst hv2
      refine B_X3_statement_105  (fun hc => ?_) (fun hc => ?_)
      · rw [if_pos hc] at h
        exact SC_X3_statement_120 hd h
      · rw [if_neg hc] at h
        obtain ⟨q7, hq, h⟩ := sw_bnd h
        refine B_X3_statement_108  (FC_X3_endFormula (Nat.le_refl _) hq) (Nat.lt_of_lt_of_le (by decide) hd) (fun v s hvs => ?_)
        obtain ⟨hv1, hv2⟩ := hvs; subst hv1; subst hv2
        refine B_X3_statement_113  (fun hc => ?_) (fun hc => ?_)
        · rw [if_pos hc] at h
          exact SC_X3_statement_120 hd h
        · rw [if_neg hc] at h
          refine B_X3_statement_116  ?_
          exact SC_X3_statement_121 hd h
  · rw [if_neg (fun z => absurd (hc.symm.trans z) (by decide)), if_neg (fun z => absurd (hc.symm.trans z) (by decide)), if_neg (fun z => absurd (hc.symm.trans z) (by decide)), if_neg (fun z => absurd (hc.symm.trans z) (by decide)), if_neg (fun z => absurd (hc.symm.trans z) (by decide)), if_neg (fun z => absurd (hc.symm.trans z) (by decide)), if_neg (fun z => absurd (hc.symm.trans z) (by decide)), if_neg (fun z => absurd (hc.symm.trans z) (by decide)), if_neg (fun z => absurd (hc.symm.trans z) (by decide)), if_neg (fun z => absurd (hc.symm.trans z) (by decide)), if_pos hc] at h
    obtain ⟨q8, hq, h⟩ := sw_bnd h
    refine B_X3_statement_122  (FC_X3_beginFormula (Nat.le_refl _) hq) (Nat.lt_of_lt_of_le (by decide) hd) (fun v s hvs => ?_)
    obtain ⟨hv1, hv2⟩ := hvs; subst hv1; subst hv2
    refine B_X3_statement_127  (fun hc => ?_) (fun hc => ?_)
    · rw [if_pos hc] at h
      exact SC_X3_statement_150 hd h
    · rw [if_neg hc] at h
      obtain ⟨q9, hq, h⟩ := sw_bnd h
      refine B_X3_statement_130  (RC_pg0 _ _ _ hq) (Nat.lt_of_lt_of_le (by decide) hd) (fun v s hvs => ?_)
      obtain ⟨hv1, hv2⟩ := hvs; subst hv1; subst hv2
      refine B_X3_statement_135  (fun hc => ?_) (fun hc => ?_)
      · rw [if_pos hc] at h
        exact SC_X3_statement_150 hd h
      · rw [if_neg hc] at h
        obtain ⟨q10, hq, h⟩ := sw_bnd h
        refine B_X3_statement_138  (FC_X3_endFormula (Nat.le_refl _) hq) (Nat.lt_of_lt_of_le (by decide) hd) (fun v s hvs => ?_)
        obtain ⟨hv1, hv2⟩ := hvs; subst hv1; subst hv2
        refine B_X3_statement_143  (fun hc => ?_) (fun hc => ?_)
        · rw [if_pos hc] at h
          exact SC_X3_statement_150 hd h
        · rw [if_neg hc] at h
          refine B_X3_statement_146  ?_
          exact SC_X3_statement_151 hd h
  · rw [if_neg (fun z => absurd (hc.symm.trans z) (by decide)), if_neg (fun z => absurd (hc.symm.trans z) (by decide)), if_neg (fun z => absurd (hc.symm.trans z) (by decide)), if_neg (fun z => absurd (hc.symm.trans z) (by decide)), if_neg (fun z => absurd (hc.symm.trans z) (by decide)), if_neg (fun z => absurd (hc.symm.trans z) (by decide)), if_neg (fun z => absurd (hc.symm.trans z) (by decide)), if_neg (fun z => absurd (hc.symm.trans z) (by decide)), if_neg (fun z => absurd (hc.symm.trans z) (by decide)), if_neg (fun z => absurd (hc.symm.trans z) (by decide)), if_neg (fun z => absurd (hc.symm.trans z) (by decide)), if_pos hc] at h
    obtain ⟨q11, hq, h⟩ := sw_bnd h
    refine B_X3_statement_152  (FC_X3_beginFormula (Nat.le_refl _) hq) (Nat.lt_of_lt_of_le (by decide) hd) (fun v s hvs => ?_)
    obtain ⟨hv1, hv2⟩ := hvs; subst hv1; subst hv2
    refine B_X3_statement_157  (fun hc => ?_) (fun hc => ?_)
    · rw [if_pos hc] at h
      exact SC_X3_statement_180 hd h
    · rw [if_neg hc] at h
      obtain ⟨q12, hq, h⟩ := sw_bnd h
      refine B_X3_statement_160  (RC_pg3 _ _ _ hq) (Nat.lt_of_lt_of_le (by decide) hd) (fun v s hvs => ?_)
      obtain ⟨hv1, hv2⟩ := hvs; subst hv1; subst hv2
      refine B_X3_statement_165  (fun hc => ?_) (fun hc => ?_)
      · rw [if_pos hc] at h
        exact SC_X3_statement_180 hd h
      · rw [if_neg hc] at h
        obtain ⟨q13, hq, h⟩ := sw_bnd h
        refine B_X3_statement_168  (FC_X3_endFormula (Nat.le_refl _) hq) (Nat.lt_of_lt_of_le (by decide) hd) (fun v s hvs => ?_)
        obtain ⟨hv1, hv2⟩ := hvs; subst hv1; subst hv2
        refine B_X3_statement_173  (fun hc => ?_) (fun hc => ?_)
        · rw [if_pos hc] at h
          exact SC_X3_statement_180 hd h
        · rw [if_neg hc] at h
          refine B_X3_statement_176  ?_
          exact SC_X3_statement_181 hd h
  · rw [if_neg (fun z => absurd (hc.symm.trans z) (by decide)), if_neg (fun z => absurd (hc.symm.trans z) (by decide)), if_neg (fun z => absurd (hc.symm.trans z) (by decide)), if_neg (fun z => absurd (hc.symm.trans z) (by decide)), if_neg (fun z => absurd (hc.symm.trans z) (by decide)), if_neg (fun z => absurd (hc.symm.trans z) (by decide)), if_neg (fun z => absurd (hc.symm.trans z) (by decide)), if_neg (fun z => absurd (hc.symm.trans z) (by decide)), if_neg (fun z => absurd (hc.symm.trans z) (by decide)), if_neg (fun z => absurd (hc.symm.trans z) (by decide)), if_neg (fun z => absurd (hc.symm.trans z) (by decide)), if_neg (fun z => absurd (hc.symm.trans z) (by decide)), if_pos hc] at h
    obtain ⟨q14, hq, h⟩ := sw_bnd h
    refine B_X3_statement_182  (FC_X3_stormStatement (Nat.le_refl _) hq) (Nat.lt_of_lt_of_le (by decide) hd) (fun v s hvs => ?_)
    obtain ⟨hv1, hv2⟩ := hvs; subst hv1; subst hv2
    obtain ⟨hz, h⟩ := sw_ifs h
    cases h
    exact B_X3_statement_186  hz ⟨_, rfl, rfl, rfl⟩
  · rw [if_neg n0, if_neg n1, if_neg n2, if_neg n3, if_neg n4, if_neg n5, if_neg n6, if_neg n7, if_neg n8, if_neg n9, if_neg n10, if_neg n11, if_neg n12] at h
    exact SC_X3_statement_187 hd h
/-! StrayWool.ask()J -/
noncomputable def S_X10_ask_49 (σ : sw_St) (sy0 : Int64) : Option (Int64 × sw_St) :=
  some (sy0, σ)
theorem SC_X10_ask_49 {E : sw_E} {d : Nat} (hd : 69 ≤ d) {p : Int64 × sw_St} {σ : sw_St} {sy0 : Int64} (h : S_X10_ask_49 σ sy0 = some p) : sw_W E sw_gX m_X10_ask d 49 [] [.long sy0] σ (sw_pL p) := by
  unfold S_X10_ask_49 at h
  cases h
  exact B_X10_ask_49  ⟨_, rfl, rfl, rfl⟩
noncomputable def F_X10_ask (σ : sw_St) : Option (Int64 × sw_St) :=
  (F_X10_takeTape σ ).bind fun q1 => (F_X3_readQuestion q1.2 1 q1.1 4).bind fun q2 => if q2.1 = (-1) then (S_X10_ask_49 q2.2 (-1000000000000000)) else ((F_X2_answer q2.2 38 q2.1 4).bind fun q3 => S_X10_ask_49 q3.2 q3.1)
theorem FC_X10_ask {E : sw_E} {d : Nat} (hd : 69 ≤ d) {p : Int64 × sw_St} {σ : sw_St} (h : F_X10_ask σ  = some p) : sw_KL E sw_gX m_X10_ask d [.ref 0] σ (fun v s => v = p.1 ∧ s = p.2) := by
  unfold F_X10_ask at h
  refine sw_K.of (by decide +kernel) rfl (Nat.le_of_ble_eq_true rfl) ?_
  show sw_W E sw_gX m_X10_ask d 0 [(0, .ref 0)] [] σ (sw_pL p)
  obtain ⟨q1, hq, h⟩ := sw_bnd h
  refine B_X10_ask_0  (FC_X10_takeTape (Nat.le_refl _) hq) (Nat.lt_of_lt_of_le (by decide) hd) (fun v s hvs => ?_)
  obtain ⟨hv1, hv2⟩ := hvs; subst hv1; subst hv2
  obtain ⟨q2, hq, h⟩ := sw_bnd h
  refine B_X10_ask_4  (FC_X3_readQuestion (Nat.le_refl _) hq) (Nat.lt_of_lt_of_le (by decide) hd) (fun v s hvs => ?_)
  obtain ⟨hv1, hv2⟩ := hvs; subst hv1; subst hv2
  refine B_X10_ask_21  (fun hc => ?_) (fun hc => ?_)
  · rw [if_neg hc] at h
    obtain ⟨q3, hq, h⟩ := sw_bnd h
    refine B_X10_ask_33  (FC_X2_answer (Nat.le_refl _) hq) (Nat.lt_of_lt_of_le (by decide) hd) (fun v s hvs => ?_)
    obtain ⟨hv1, hv2⟩ := hvs; subst hv1; subst hv2
    exact SC_X10_ask_49 hd h
  · rw [if_pos hc] at h
    refine B_X10_ask_27  ?_
    exact SC_X10_ask_49 hd h
/-! StrayWool$Parser.readUpland([BILStrayWool$Upland;)Z -/
noncomputable def S_X3_readUpland_97 (σ : sw_St) : Option (Int32 × sw_St) :=
  some (0, σ)
theorem SC_X3_readUpland_97 {E : sw_E} {d : Nat} (hd : 69 ≤ d) {p : Int32 × sw_St} {σ : sw_St} (h : S_X3_readUpland_97 σ  = some p) : sw_W E sw_gX m_X3_readUpland d 97 [] [] σ (sw_pI p) := by
  unfold S_X3_readUpland_97 at h
  cases h
  exact B_X3_readUpland_97  ⟨_, rfl, rfl, rfl⟩
noncomputable def S_X3_readUpland_24 (c24 : sw_St → Int32 → Option (Int32 × sw_St)) (σ : sw_St) (x4 : Int32) : Option (Int32 × sw_St) :=
  if 60 < x4 then (some (0, σ)) else (if (σ.1 2 2) = 301 then ((σ.2.2 32 1).bind fun w4 => (if sw_isO sw_gX w4 9 = true then (some (1, (sw_uI σ w4 0 x4))) else none)) else (if x4 = 60 then ((F_X6_fail σ 5 (σ.1 2 3)).bind fun q3 => if q3.1 = 0 ∨ q3.1 = 1 then some (q3.1, q3.2) else none) else ((F_X3_statement σ ).bind fun q1 => if q1.1 = 0 then (S_X3_readUpland_97 q1.2 ) else ((F_X6_expect q1.2 59).bind fun q2 => if q2.1 = 0 then (S_X3_readUpland_97 q2.2 ) else (c24 q2.2 (x4 + 1))))))
theorem SC_X3_readUpland_24 {E : sw_E} {d : Nat} (hd : 69 ≤ d) {p : Int32 × sw_St} {c24 : sw_St → Int32 → Option (Int32 × sw_St)} (h24 : ∀ (σ : sw_St) (x4 : Int32), c24 σ x4 = some p → sw_W E sw_gX m_X3_readUpland d 24 [(0, .ref 32), (4, .int x4)] [] σ (sw_pI p)) {σ : sw_St} {x4 : Int32} (h : S_X3_readUpland_24 c24 σ x4 = some p) : sw_W E sw_gX m_X3_readUpland d 24 [(0, .ref 32), (4, .int x4)] [] σ (sw_pI p) := by
  unfold S_X3_readUpland_24 at h
  refine B_X3_readUpland_24  (fun hc => ?_) (fun hc => ?_)
  · rw [if_pos hc] at h
    cases h
    exact B_X3_readUpland_105  ⟨_, rfl, rfl, rfl⟩
  · rw [if_neg hc] at h
    refine B_X3_readUpland_31  (fun hc => ?_) (fun hc => ?_)
    · rw [if_neg hc] at h
      refine B_X3_readUpland_55  (fun hc => ?_) (fun hc => ?_)
      · rw [if_neg hc] at h
        obtain ⟨q1, hq, h⟩ := sw_bnd h
        refine B_X3_readUpland_78  (FC_X3_statement (Nat.le_refl _) hq) (Nat.lt_of_lt_of_le (by decide) hd) (fun v s hvs => ?_)
        obtain ⟨hv1, hv2⟩ := hvs; subst hv1; subst hv2
        refine B_X3_readUpland_82  (fun hc => ?_) (fun hc => ?_)
        · rw [if_pos hc] at h
          exact SC_X3_readUpland_97 hd h
        · rw [if_neg hc] at h
          obtain ⟨q2, hq, h⟩ := sw_bnd h
          refine B_X3_readUpland_85  (FC_X6_expect (Nat.le_refl _) hq) (Nat.lt_of_lt_of_le (by decide) hd) (fun v s hvs => ?_)
          obtain ⟨hv1, hv2⟩ := hvs; subst hv1; subst hv2
          refine B_X3_readUpland_94  (fun hc => ?_) (fun hc => ?_)
          · rw [if_neg hc] at h
            refine B_X3_readUpland_99  ?_
            exact h24 _ _ h
          · rw [if_pos hc] at h
            exact SC_X3_readUpland_97 hd h
      · rw [if_pos hc] at h
        obtain ⟨q3, hq, h⟩ := sw_bnd h
        refine B_X3_readUpland_62  (FC_X6_fail (Nat.le_refl _) hq) (Nat.lt_of_lt_of_le (by decide) hd) (fun v s hvs => ?_)
        obtain ⟨hv1, hv2⟩ := hvs; subst hv1; subst hv2
        obtain ⟨hz, h⟩ := sw_ifs h
        cases h
        exact B_X3_readUpland_77  hz ⟨_, rfl, rfl, rfl⟩
    · rw [if_pos hc] at h
      obtain ⟨w4, ow4, h⟩ := sw_bnd h
      obtain ⟨o5, h⟩ := sw_ifs h
      cases h
      exact B_X3_readUpland_44 ow4 o5 ⟨_, rfl, rfl, rfl⟩
noncomputable def L_X3_readUpland_24 : Nat → sw_St → Int32 → Option (Int32 × sw_St)
  | 0, _, _ => none
  | k + 1, σ, x4 => S_X3_readUpland_24 (fun σ x4 => L_X3_readUpland_24 k σ x4) σ x4
theorem LC_X3_readUpland_24 {E : sw_E} {d : Nat} (hd : 69 ≤ d) {p : Int32 × sw_St} : ∀ (k : Nat) (σ : sw_St) (x4 : Int32), L_X3_readUpland_24 k σ x4 = some p → sw_W E sw_gX m_X3_readUpland d 24 [(0, .ref 32), (4, .int x4)] [] σ (sw_pI p) := by
  intro k
  induction k with
  | zero => intro σ x4 h; cases h
  | succ k ih => intro σ x4 h; exact SC_X3_readUpland_24 hd ih h
noncomputable def F_X3_readUpland (σ : sw_St) (o1 : Nat) (x2 : Int32) (o3 : Nat) : Option (Int32 × sw_St) :=
  ((some o3)).bind fun w1 => (if sw_isO sw_gX w1 9 = true then ((F_X9_clear (sw_uR σ 32 1 (some o3)) w1).bind fun q2 => (F_X6_open q2.2 o1 x2).bind fun q4 => L_X3_readUpland_24 sw_fuel q4.2 0) else none)
theorem FC_X3_readUpland {E : sw_E} {d : Nat} (hd : 69 ≤ d) {p : Int32 × sw_St} {σ : sw_St} {o1 : Nat} {x2 : Int32} {o3 : Nat} (h : F_X3_readUpland σ o1 x2 o3 = some p) : sw_KI E sw_gX m_X3_readUpland d [.ref 32, .ref o1, .int x2, .ref o3] σ (fun v s => v = p.1 ∧ s = p.2) := by
  unfold F_X3_readUpland at h
  refine sw_K.of (by decide +kernel) rfl (Nat.le_of_ble_eq_true rfl) ?_
  show sw_W E sw_gX m_X3_readUpland d 0 [(0, .ref 32), (1, .ref o1), (2, .int x2), (3, .ref o3)] [] σ (sw_pI p)
  obtain ⟨w1, ow1, h⟩ := sw_bnd h
  obtain ⟨o3, h⟩ := sw_ifs h
  obtain ⟨q2, hq, h⟩ := sw_bnd h
  refine B_X3_readUpland_0 ow1 (FC_X9_clear (Nat.le_refl _) hq) (Nat.lt_of_lt_of_le (by decide) hd) (fun s hvs => ?_) o3
  subst hvs
  obtain ⟨q4, hq, h⟩ := sw_bnd h
  refine B_X3_readUpland_12  (FC_X6_open (Nat.le_refl _) hq) (Nat.lt_of_lt_of_le (by decide) hd) (fun s hvs => ?_)
  subst hvs
  refine B_X3_readUpland_21  ?_
  exact LC_X3_readUpland_24 hd _ _ _ h
/-! StrayWool.upland()I -/
noncomputable def F_X10_upland (σ : sw_St) : Option (Int32 × sw_St) :=
  (F_X10_takeTape σ ).bind fun q1 => (q1.2.2.2 0 4).bind fun w2 => ((F_X3_readUpland q1.2 1 q1.1 w2).bind fun q3 => if q3.1 = 0 then ((F_X10_refuse q3.2 1).bind fun q11 => some (q11.1, q11.2)) else ((q3.2.2.2 33 0).bind fun w4 => ((q3.2.2.2 0 4).bind fun w5 => (((some w5)).bind fun w6 => ((F_X8_begin (sw_uR (sw_uR q3.2 33 0 (some w5)) 0 4 (some w4)) 38 w6).bind fun q7 => (F_X4_clear q7.2 ).bind fun q8 => (q8.2.2.2 33 0).bind fun w9 => (if sw_isO sw_gX w9 9 = true then (some ((sw_uI q8.2 54 4 0).1 w9 0, (sw_uI q8.2 54 4 0))) else none))))))
theorem FC_X10_upland {E : sw_E} {d : Nat} (hd : 70 ≤ d) {p : Int32 × sw_St} {σ : sw_St} (h : F_X10_upland σ  = some p) : sw_KI E sw_gX m_X10_upland d [.ref 0] σ (fun v s => v = p.1 ∧ s = p.2) := by
  unfold F_X10_upland at h
  refine sw_K.of (by decide +kernel) rfl (Nat.le_of_ble_eq_true rfl) ?_
  show sw_W E sw_gX m_X10_upland d 0 [(0, .ref 0)] [] σ (sw_pI p)
  obtain ⟨q1, hq, h⟩ := sw_bnd h
  refine B_X10_upland_0  (FC_X10_takeTape (Nat.le_refl _) hq) (Nat.lt_of_lt_of_le (by decide) hd) (fun v s hvs => ?_)
  obtain ⟨hv1, hv2⟩ := hvs; subst hv1; subst hv2
  obtain ⟨w2, ow2, h⟩ := sw_bnd h
  obtain ⟨q3, hq, h⟩ := sw_bnd h
  refine B_X10_upland_4 ow2 (FC_X3_readUpland (Nat.le_refl _) hq) (Nat.lt_of_lt_of_le (by decide) hd) (fun v s hvs => ?_)
  obtain ⟨hv1, hv2⟩ := hvs; subst hv1; subst hv2
  refine B_X10_upland_21  (fun hc => ?_) (fun hc => ?_)
  · rw [if_neg hc] at h
    obtain ⟨w4, ow4, h⟩ := sw_bnd h
    obtain ⟨w5, ow5, h⟩ := sw_bnd h
    obtain ⟨w6, ow6, h⟩ := sw_bnd h
    obtain ⟨q7, hq, h⟩ := sw_bnd h
    refine B_X10_upland_30 ow4 ow5 ow6 (FC_X8_begin (Nat.le_refl _) hq) (Nat.lt_of_lt_of_le (by decide) hd) (fun s hvs => ?_)
    subst hvs
    obtain ⟨q8, hq, h⟩ := sw_bnd h
    refine B_X10_upland_68  (FC_X4_clear (Nat.le_refl _) hq) (Nat.lt_of_lt_of_le (by decide) hd) (fun s hvs => ?_)
    subst hvs
    obtain ⟨w9, ow9, h⟩ := sw_bnd h
    obtain ⟨o10, h⟩ := sw_ifs h
    cases h
    exact B_X10_upland_75 ow9 o10 ⟨_, rfl, rfl, rfl⟩
  · rw [if_pos hc] at h
    obtain ⟨q11, hq, h⟩ := sw_bnd h
    refine B_X10_upland_24  (FC_X10_refuse (Nat.le_refl _) hq) (Nat.lt_of_lt_of_le (by decide) hd) (fun v s hvs => ?_)
    obtain ⟨hv1, hv2⟩ := hvs; subst hv1; subst hv2
    cases h
    exact B_X10_upland_29  ⟨_, rfl, rfl, rfl⟩

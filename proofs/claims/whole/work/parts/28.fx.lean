/-! StrayWool$Hill.goOn(LStrayWool$State;II)V -/
noncomputable def S_X2_goOn_49 (c3 : sw_St → Nat → Int32 → Int32 → Int32 → Option (Unit × sw_St)) (σ : sw_St) (o1 : Nat) (x2 : Int32) (x3 : Int32) (x4 : Int32) : Option (Unit × sw_St) :=
  if sw_isO sw_gX o1 8 = true then ((F_J9_min_7cf53 σ 999 ((σ.1 o1 0) + 1)).bind fun q2 => if sw_isO sw_gX o1 8 = true then (c3 (sw_uI q2.2 o1 0 q2.1) o1 x2 x3 (x4 + 1)) else none) else none
theorem SC_X2_goOn_49 {E : sw_E} {d : Nat} (hd : 5 ≤ d) {p : Unit × sw_St} {c3 : sw_St → Nat → Int32 → Int32 → Int32 → Option (Unit × sw_St)} (h3 : ∀ (σ : sw_St) (o1 : Nat) (x2 : Int32) (x3 : Int32) (x4 : Int32), c3 σ o1 x2 x3 x4 = some p → sw_W E sw_gX m_X2_goOn d 3 [(0, .ref 33), (1, .ref o1), (2, .int x2), (3, .int x3), (4, .int x4)] [] σ (sw_pV p)) {σ : sw_St} {o1 : Nat} {x2 : Int32} {x3 : Int32} {x4 : Int32} (h : S_X2_goOn_49 c3 σ o1 x2 x3 x4 = some p) : sw_W E sw_gX m_X2_goOn d 49 [(0, .ref 33), (1, .ref o1), (2, .int x2), (3, .int x3), (4, .int x4)] [] σ (sw_pV p) := by
  unfold S_X2_goOn_49 at h
  obtain ⟨o1, h⟩ := sw_ifs h
  obtain ⟨q2, hq, h⟩ := sw_bnd h
  refine B_X2_goOn_49 o1 (FC_J9_min_7cf53 (Nat.le_refl _) hq) (Nat.lt_of_lt_of_le (by decide) hd) (fun v s hvs => ?_)
  obtain ⟨hv1, hv2⟩ := hvs; subst hv1; subst hv2
  obtain ⟨o3, h⟩ := sw_ifs h
  refine B_X2_goOn_62 o3 ?_
  exact h3 _ _ _ _ _ h
noncomputable def S_X2_goOn_3 (c3 : sw_St → Nat → Int32 → Int32 → Int32 → Option (Unit × sw_St)) (σ : sw_St) (o1 : Nat) (x2 : Int32) (x3 : Int32) (x4 : Int32) : Option (Unit × sw_St) :=
  if x3 ≤ x4 then (some ((), σ)) else (if sw_isO sw_gX o1 8 = true then ((F_X2_luring σ o1 x2 (σ.1 o1 2) 37 0).bind fun q2 => (F_X2_mostLuring q2.2 q2.1 37 0).bind fun q3 => if q3.1 = (-1) then (S_X2_goOn_49 c3 q3.2 o1 x2 x3 x4) else ((F_X2_passThrough q3.2 o1 x2 q3.1).bind fun q4 => S_X2_goOn_49 c3 q4.2 o1 x2 x3 x4)) else none)
theorem SC_X2_goOn_3 {E : sw_E} {d : Nat} (hd : 5 ≤ d) {p : Unit × sw_St} {c3 : sw_St → Nat → Int32 → Int32 → Int32 → Option (Unit × sw_St)} (h3 : ∀ (σ : sw_St) (o1 : Nat) (x2 : Int32) (x3 : Int32) (x4 : Int32), c3 σ o1 x2 x3 x4 = some p → sw_W E sw_gX m_X2_goOn d 3 [(0, .ref 33), (1, .ref o1), (2, .int x2), (3, .int x3), (4, .int x4)] [] σ (sw_pV p)) {σ : sw_St} {o1 : Nat} {x2 : Int32} {x3 : Int32} {x4 : Int32} (h : S_X2_goOn_3 c3 σ o1 x2 x3 x4 = some p) : sw_W E sw_gX m_X2_goOn d 3 [(0, .ref 33), (1, .ref o1), (2, .int x2), (3, .int x3), (4, .int x4)] [] σ (sw_pV p) := by
  unfold S_X2_goOn_3 at h
  refine B_X2_goOn_3  (fun hc => ?_) (fun hc => ?_)
  · rw [if_pos hc] at h
    cases h
    exact B_X2_goOn_71  ⟨rfl, rfl⟩
  · rw [if_neg hc] at h
    obtain ⟨o1, h⟩ := sw_ifs h
    obtain ⟨q2, hq, h⟩ := sw_bnd h
    refine B_X2_goOn_9 o1 (FC_X2_luring (Nat.le_refl _) hq) (Nat.lt_of_lt_of_le (by decide) hd) (fun v s hvs => ?_)
    obtain ⟨hv1, hv2⟩ := hvs; subst hv1; subst hv2
    obtain ⟨q3, hq, h⟩ := sw_bnd h
    refine B_X2_goOn_25  (FC_X2_mostLuring (Nat.le_refl _) hq) (Nat.lt_of_lt_of_le (by decide) hd) (fun v s hvs => ?_)
    obtain ⟨hv1, hv2⟩ := hvs; subst hv1; subst hv2
    refine B_X2_goOn_33  (fun hc => ?_) (fun hc => ?_)
    · rw [if_pos hc] at h
      exact SC_X2_goOn_49 hd h3 h
    · rw [if_neg hc] at h
      obtain ⟨q4, hq, h⟩ := sw_bnd h
      refine B_X2_goOn_41  (FC_X2_passThrough (Nat.le_refl _) hq) (Nat.lt_of_lt_of_le (by decide) hd) (fun s hvs => ?_)
      subst hvs
      exact SC_X2_goOn_49 hd h3 h
noncomputable def L_X2_goOn_3 : Nat → sw_St → Nat → Int32 → Int32 → Int32 → Option (Unit × sw_St)
  | 0, _, _, _, _, _ => none
  | k + 1, σ, o1, x2, x3, x4 => S_X2_goOn_3 (fun σ o1 x2 x3 x4 => L_X2_goOn_3 k σ o1 x2 x3 x4) σ o1 x2 x3 x4
theorem LC_X2_goOn_3 {E : sw_E} {d : Nat} (hd : 5 ≤ d) {p : Unit × sw_St} : ∀ (k : Nat) (σ : sw_St) (o1 : Nat) (x2 : Int32) (x3 : Int32) (x4 : Int32), L_X2_goOn_3 k σ o1 x2 x3 x4 = some p → sw_W E sw_gX m_X2_goOn d 3 [(0, .ref 33), (1, .ref o1), (2, .int x2), (3, .int x3), (4, .int x4)] [] σ (sw_pV p) := by
  intro k
  induction k with
  | zero => intro σ o1 x2 x3 x4 h; cases h
  | succ k ih => intro σ o1 x2 x3 x4 h; exact SC_X2_goOn_3 hd ih h
noncomputable def F_X2_goOn (σ : sw_St) (o1 : Nat) (x2 : Int32) (x3 : Int32) : Option (Unit × sw_St) :=
  L_X2_goOn_3 sw_fuel σ o1 x2 x3 0
theorem FC_X2_goOn {E : sw_E} {d : Nat} (hd : 5 ≤ d) {p : Unit × sw_St} {σ : sw_St} {o1 : Nat} {x2 : Int32} {x3 : Int32} (h : F_X2_goOn σ o1 x2 x3 = some p) : sw_KV E sw_gX m_X2_goOn d [.ref 33, .ref o1, .int x2, .int x3] σ (fun s => s = p.2) := by
  unfold F_X2_goOn at h
  refine sw_K.of (by decide +kernel) rfl (Nat.le_of_ble_eq_true rfl) ?_
  show sw_W E sw_gX m_X2_goOn d 0 [(0, .ref 33), (1, .ref o1), (2, .int x2), (3, .int x3)] [] σ (sw_pV p)
  refine B_X2_goOn_0  ?_
  exact LC_X2_goOn_3 hd _ _ _ _ _ _ h
/-! StrayWool$Hill.answer(LStrayWool$State;ILStrayWool$Code;)J -/
noncomputable def S_X2_answer_189 (c26 : sw_St → Nat → Int32 → Nat → Int64 → Int32 → Option (Int64 × sw_St)) (σ : sw_St) (o1 : Nat) (x2 : Int32) (o3 : Nat) (y4 : Int64) (x6 : Int32) : Option (Int64 × sw_St) :=
  c26 σ o1 x2 o3 y4 (x6 + 1)
theorem SC_X2_answer_189 {E : sw_E} {d : Nat} (hd : 5 ≤ d) {p : Int64 × sw_St} {c26 : sw_St → Nat → Int32 → Nat → Int64 → Int32 → Option (Int64 × sw_St)} (h26 : ∀ (σ : sw_St) (o1 : Nat) (x2 : Int32) (o3 : Nat) (y4 : Int64) (x6 : Int32), c26 σ o1 x2 o3 y4 x6 = some p → sw_W E sw_gX m_X2_answer d 26 [(0, .ref 33), (1, .ref o1), (2, .int x2), (3, .ref o3), (4, .long y4), (6, .int x6)] [] σ (sw_pL p)) {σ : sw_St} {o1 : Nat} {x2 : Int32} {o3 : Nat} {y4 : Int64} {x6 : Int32} (h : S_X2_answer_189 c26 σ o1 x2 o3 y4 x6 = some p) : sw_W E sw_gX m_X2_answer d 189 [(0, .ref 33), (1, .ref o1), (2, .int x2), (3, .ref o3), (4, .long y4), (6, .int x6)] [] σ (sw_pL p) := by
  unfold S_X2_answer_189 at h
  refine B_X2_answer_189  ?_
  exact h26 _ _ _ _ _ _ h
noncomputable def S_X2_answer_110 (c26 : sw_St → Nat → Int32 → Nat → Int64 → Int32 → Option (Int64 × sw_St)) (σ : sw_St) (o1 : Nat) (x2 : Int32) (o3 : Nat) (x6 : Int32) (sy0 : Int64) : Option (Int64 × sw_St) :=
  S_X2_answer_189 c26 σ o1 x2 o3 sy0 x6
theorem SC_X2_answer_110 {E : sw_E} {d : Nat} (hd : 5 ≤ d) {p : Int64 × sw_St} {c26 : sw_St → Nat → Int32 → Nat → Int64 → Int32 → Option (Int64 × sw_St)} (h26 : ∀ (σ : sw_St) (o1 : Nat) (x2 : Int32) (o3 : Nat) (y4 : Int64) (x6 : Int32), c26 σ o1 x2 o3 y4 x6 = some p → sw_W E sw_gX m_X2_answer d 26 [(0, .ref 33), (1, .ref o1), (2, .int x2), (3, .ref o3), (4, .long y4), (6, .int x6)] [] σ (sw_pL p)) {σ : sw_St} {o1 : Nat} {x2 : Int32} {o3 : Nat} {x6 : Int32} {sy0 : Int64} (h : S_X2_answer_110 c26 σ o1 x2 o3 x6 sy0 = some p) : sw_W E sw_gX m_X2_answer d 110 [(0, .ref 33), (1, .ref o1), (2, .int x2), (3, .ref o3), (6, .int x6)] [.long sy0] σ (sw_pL p) := by
  unfold S_X2_answer_110 at h
  refine B_X2_answer_110  ?_
  exact SC_X2_answer_189 hd h26 h
noncomputable def S_X2_answer_108 (c26 : sw_St → Nat → Int32 → Nat → Int64 → Int32 → Option (Int64 × sw_St)) (σ : sw_St) (o1 : Nat) (x2 : Int32) (o3 : Nat) (y4 : Int64) (x6 : Int32) : Option (Int64 × sw_St) :=
  S_X2_answer_110 c26 σ o1 x2 o3 x6 y4
theorem SC_X2_answer_108 {E : sw_E} {d : Nat} (hd : 5 ≤ d) {p : Int64 × sw_St} {c26 : sw_St → Nat → Int32 → Nat → Int64 → Int32 → Option (Int64 × sw_St)} (h26 : ∀ (σ : sw_St) (o1 : Nat) (x2 : Int32) (o3 : Nat) (y4 : Int64) (x6 : Int32), c26 σ o1 x2 o3 y4 x6 = some p → sw_W E sw_gX m_X2_answer d 26 [(0, .ref 33), (1, .ref o1), (2, .int x2), (3, .ref o3), (4, .long y4), (6, .int x6)] [] σ (sw_pL p)) {σ : sw_St} {o1 : Nat} {x2 : Int32} {o3 : Nat} {y4 : Int64} {x6 : Int32} (h : S_X2_answer_108 c26 σ o1 x2 o3 y4 x6 = some p) : sw_W E sw_gX m_X2_answer d 108 [(0, .ref 33), (1, .ref o1), (2, .int x2), (3, .ref o3), (4, .long y4), (6, .int x6)] [] σ (sw_pL p) := by
  unfold S_X2_answer_108 at h
  refine B_X2_answer_108  ?_
  exact SC_X2_answer_110 hd h26 h
noncomputable def S_X2_answer_128 (c26 : sw_St → Nat → Int32 → Nat → Int64 → Int32 → Option (Int64 × sw_St)) (σ : sw_St) (o1 : Nat) (x2 : Int32) (o3 : Nat) (x6 : Int32) (sy0 : Int64) : Option (Int64 × sw_St) :=
  S_X2_answer_189 c26 σ o1 x2 o3 sy0 x6
theorem SC_X2_answer_128 {E : sw_E} {d : Nat} (hd : 5 ≤ d) {p : Int64 × sw_St} {c26 : sw_St → Nat → Int32 → Nat → Int64 → Int32 → Option (Int64 × sw_St)} (h26 : ∀ (σ : sw_St) (o1 : Nat) (x2 : Int32) (o3 : Nat) (y4 : Int64) (x6 : Int32), c26 σ o1 x2 o3 y4 x6 = some p → sw_W E sw_gX m_X2_answer d 26 [(0, .ref 33), (1, .ref o1), (2, .int x2), (3, .ref o3), (4, .long y4), (6, .int x6)] [] σ (sw_pL p)) {σ : sw_St} {o1 : Nat} {x2 : Int32} {o3 : Nat} {x6 : Int32} {sy0 : Int64} (h : S_X2_answer_128 c26 σ o1 x2 o3 x6 sy0 = some p) : sw_W E sw_gX m_X2_answer d 128 [(0, .ref 33), (1, .ref o1), (2, .int x2), (3, .ref o3), (6, .int x6)] [.long sy0] σ (sw_pL p) := by
  unfold S_X2_answer_128 at h
  refine B_X2_answer_128  ?_
  exact SC_X2_answer_189 hd h26 h
noncomputable def S_X2_answer_181 (c26 : sw_St → Nat → Int32 → Nat → Int64 → Int32 → Option (Int64 × sw_St)) (σ : sw_St) (o1 : Nat) (x2 : Int32) (o3 : Nat) (y4 : Int64) (x6 : Int32) (x7 : Int32) : Option (Int64 × sw_St) :=
  S_X2_answer_189 c26 σ o1 x2 o3 (y4 + x7.toInt64) x6
theorem SC_X2_answer_181 {E : sw_E} {d : Nat} (hd : 5 ≤ d) {p : Int64 × sw_St} {c26 : sw_St → Nat → Int32 → Nat → Int64 → Int32 → Option (Int64 × sw_St)} (h26 : ∀ (σ : sw_St) (o1 : Nat) (x2 : Int32) (o3 : Nat) (y4 : Int64) (x6 : Int32), c26 σ o1 x2 o3 y4 x6 = some p → sw_W E sw_gX m_X2_answer d 26 [(0, .ref 33), (1, .ref o1), (2, .int x2), (3, .ref o3), (4, .long y4), (6, .int x6)] [] σ (sw_pL p)) {σ : sw_St} {o1 : Nat} {x2 : Int32} {o3 : Nat} {y4 : Int64} {x6 : Int32} {x7 : Int32} (h : S_X2_answer_181 c26 σ o1 x2 o3 y4 x6 x7 = some p) : sw_W E sw_gX m_X2_answer d 181 [(0, .ref 33), (1, .ref o1), (2, .int x2), (3, .ref o3), (4, .long y4), (6, .int x6), (7, .int x7)] [] σ (sw_pL p) := by
  unfold S_X2_answer_181 at h
  refine B_X2_answer_181  ?_
  exact SC_X2_answer_189 hd h26 h
noncomputable def S_X2_answer_152 (c26 : sw_St → Nat → Int32 → Nat → Int64 → Int32 → Option (Int64 × sw_St)) (σ : sw_St) (o1 : Nat) (x2 : Int32) (o3 : Nat) (x6 : Int32) (sy0 : Int64) : Option (Int64 × sw_St) :=
  S_X2_answer_189 c26 σ o1 x2 o3 sy0 x6
theorem SC_X2_answer_152 {E : sw_E} {d : Nat} (hd : 5 ≤ d) {p : Int64 × sw_St} {c26 : sw_St → Nat → Int32 → Nat → Int64 → Int32 → Option (Int64 × sw_St)} (h26 : ∀ (σ : sw_St) (o1 : Nat) (x2 : Int32) (o3 : Nat) (y4 : Int64) (x6 : Int32), c26 σ o1 x2 o3 y4 x6 = some p → sw_W E sw_gX m_X2_answer d 26 [(0, .ref 33), (1, .ref o1), (2, .int x2), (3, .ref o3), (4, .long y4), (6, .int x6)] [] σ (sw_pL p)) {σ : sw_St} {o1 : Nat} {x2 : Int32} {o3 : Nat} {x6 : Int32} {sy0 : Int64} (h : S_X2_answer_152 c26 σ o1 x2 o3 x6 sy0 = some p) : sw_W E sw_gX m_X2_answer d 152 [(0, .ref 33), (1, .ref o1), (2, .int x2), (3, .ref o3), (6, .int x6)] [.long sy0] σ (sw_pL p) := by
  unfold S_X2_answer_152 at h
  refine B_X2_answer_152  ?_
  exact SC_X2_answer_189 hd h26 h
noncomputable def S_X2_answer_176 (c26 : sw_St → Nat → Int32 → Nat → Int64 → Int32 → Option (Int64 × sw_St)) (σ : sw_St) (o1 : Nat) (x2 : Int32) (o3 : Nat) (x6 : Int32) (sy0 : Int64) : Option (Int64 × sw_St) :=
  S_X2_answer_189 c26 σ o1 x2 o3 sy0 x6
theorem SC_X2_answer_176 {E : sw_E} {d : Nat} (hd : 5 ≤ d) {p : Int64 × sw_St} {c26 : sw_St → Nat → Int32 → Nat → Int64 → Int32 → Option (Int64 × sw_St)} (h26 : ∀ (σ : sw_St) (o1 : Nat) (x2 : Int32) (o3 : Nat) (y4 : Int64) (x6 : Int32), c26 σ o1 x2 o3 y4 x6 = some p → sw_W E sw_gX m_X2_answer d 26 [(0, .ref 33), (1, .ref o1), (2, .int x2), (3, .ref o3), (4, .long y4), (6, .int x6)] [] σ (sw_pL p)) {σ : sw_St} {o1 : Nat} {x2 : Int32} {o3 : Nat} {x6 : Int32} {sy0 : Int64} (h : S_X2_answer_176 c26 σ o1 x2 o3 x6 sy0 = some p) : sw_W E sw_gX m_X2_answer d 176 [(0, .ref 33), (1, .ref o1), (2, .int x2), (3, .ref o3), (6, .int x6)] [.long sy0] σ (sw_pL p) := by
  unfold S_X2_answer_176 at h
  refine B_X2_answer_176  ?_
  exact SC_X2_answer_189 hd h26 h
noncomputable def S_X2_answer_26 (c26 : sw_St → Nat → Int32 → Nat → Int64 → Int32 → Option (Int64 × sw_St)) (σ : sw_St) (o1 : Nat) (x2 : Int32) (o3 : Nat) (y4 : Int64) (x6 : Int32) : Option (Int64 × sw_St) :=
  (σ.2.2 33 0).bind fun w1 => (if sw_isO sw_gX w1 9 = true then (if (σ.1 w1 3) ≤ x6 then (some (y4, σ)) else ((F_X2_questionOf σ o1 x6 o3).bind fun q3 => if x2 = 281 then (if (lg_cmp y4 (-1)) = 0 then (if q3.1 = 0 then (S_X2_answer_108 c26 q3.2 o1 x2 o3 y4 x6) else (S_X2_answer_110 c26 q3.2 o1 x2 o3 x6 x6.toInt64)) else (S_X2_answer_108 c26 q3.2 o1 x2 o3 y4 x6)) else if x2 = 282 then (if q3.1 = 0 then (S_X2_answer_128 c26 q3.2 o1 x2 o3 x6 y4) else (S_X2_answer_128 c26 q3.2 o1 x2 o3 x6 x6.toInt64)) else if x2 = 283 then (S_X2_answer_181 c26 q3.2 o1 x2 o3 y4 x6 q3.1) else if x2 = 284 then (S_X2_answer_181 c26 q3.2 o1 x2 o3 y4 x6 q3.1) else if x2 = 285 then (if x6 = 0 then (S_X2_answer_152 c26 q3.2 o1 x2 o3 x6 q3.1.toInt64) else ((F_J9_max_f86c9 q3.2 y4 q3.1.toInt64).bind fun q4 => S_X2_answer_152 c26 q4.2 o1 x2 o3 x6 q4.1)) else if x2 = 286 then (if x6 = 0 then (S_X2_answer_176 c26 q3.2 o1 x2 o3 x6 q3.1.toInt64) else ((F_J9_min_f86c9 q3.2 y4 q3.1.toInt64).bind fun q5 => S_X2_answer_176 c26 q5.2 o1 x2 o3 x6 q5.1)) else (S_X2_answer_181 c26 q3.2 o1 x2 o3 y4 x6 q3.1))) else none)
theorem SC_X2_answer_26 {E : sw_E} {d : Nat} (hd : 5 ≤ d) {p : Int64 × sw_St} {c26 : sw_St → Nat → Int32 → Nat → Int64 → Int32 → Option (Int64 × sw_St)} (h26 : ∀ (σ : sw_St) (o1 : Nat) (x2 : Int32) (o3 : Nat) (y4 : Int64) (x6 : Int32), c26 σ o1 x2 o3 y4 x6 = some p → sw_W E sw_gX m_X2_answer d 26 [(0, .ref 33), (1, .ref o1), (2, .int x2), (3, .ref o3), (4, .long y4), (6, .int x6)] [] σ (sw_pL p)) {σ : sw_St} {o1 : Nat} {x2 : Int32} {o3 : Nat} {y4 : Int64} {x6 : Int32} (h : S_X2_answer_26 c26 σ o1 x2 o3 y4 x6 = some p) : sw_W E sw_gX m_X2_answer d 26 [(0, .ref 33), (1, .ref o1), (2, .int x2), (3, .ref o3), (4, .long y4), (6, .int x6)] [] σ (sw_pL p) := by
  unfold S_X2_answer_26 at h
  obtain ⟨w1, ow1, h⟩ := sw_bnd h
  obtain ⟨o2, h⟩ := sw_ifs h
  refine B_X2_answer_26 ow1 o2 (fun hc => ?_) (fun hc => ?_)
  · rw [if_pos hc] at h
    cases h
    exact B_X2_answer_195  ⟨_, rfl, rfl, rfl⟩
  · rw [if_neg hc] at h
    obtain ⟨q3, hq, h⟩ := sw_bnd h
    refine B_X2_answer_38  (FC_X2_questionOf (Nat.le_refl _) hq) (Nat.lt_of_lt_of_le (by decide) hd) (fun v s hvs => ?_)
    obtain ⟨hv1, hv2⟩ := hvs; subst hv1; subst hv2
    refine B_X2_answer_46  (fun hc => ?_) (fun hc => ?_) (fun hc => ?_) (fun hc => ?_) (fun hc => ?_) (fun hc => ?_) (fun n0 n1 n2 n3 n4 n5 => ?_)
    · rw [if_pos hc] at h
      refine B_X2_answer_88  (fun hc => ?_) (fun hc => ?_)
      · rw [if_neg hc] at h
        exact SC_X2_answer_108 hd h26 h
      · rw [if_pos hc] at h
        refine B_X2_answer_97  (fun hc => ?_) (fun hc => ?_)
        · rw [if_pos hc] at h
          exact SC_X2_answer_108 hd h26 h
        · rw [if_neg hc] at h
          refine B_X2_answer_102  ?_
          exact SC_X2_answer_110 hd h26 h
    · rw [if_neg (fun z => absurd (hc.symm.trans z) (by decide)), if_pos hc] at h
      refine B_X2_answer_115  (fun hc => ?_) (fun hc => ?_)
      · rw [if_pos hc] at h
        refine B_X2_answer_126  ?_
        exact SC_X2_answer_128 hd h26 h
      · rw [if_neg hc] at h
        refine B_X2_answer_120  ?_
        exact SC_X2_answer_128 hd h26 h
    · rw [if_neg (fun z => absurd (hc.symm.trans z) (by decide)), if_neg (fun z => absurd (hc.symm.trans z) (by decide)), if_pos hc] at h
      exact SC_X2_answer_181 hd h26 h
    · rw [if_neg (fun z => absurd (hc.symm.trans z) (by decide)), if_neg (fun z => absurd (hc.symm.trans z) (by decide)), if_neg (fun z => absurd (hc.symm.trans z) (by decide)), if_pos hc] at h
      exact SC_X2_answer_181 hd h26 h
    · rw [if_neg (fun z => absurd (hc.symm.trans z) (by decide)), if_neg (fun z => absurd (hc.symm.trans z) (by decide)), if_neg (fun z => absurd (hc.symm.trans z) (by decide)), if_neg (fun z => absurd (hc.symm.trans z) (by decide)), if_pos hc] at h
      refine B_X2_answer_133  (fun hc => ?_) (fun hc => ?_)
      · rw [if_neg hc] at h
        obtain ⟨q4, hq, h⟩ := sw_bnd h
        refine B_X2_answer_144  (FC_J9_max_f86c9 (Nat.le_refl _) hq) (Nat.lt_of_lt_of_le (by decide) hd) (fun v s hvs => ?_)
        obtain ⟨hv1, hv2⟩ := hvs; subst hv1; subst hv2
        exact SC_X2_answer_152 hd h26 h
      · rw [if_pos hc] at h
        refine B_X2_answer_138  ?_
        exact SC_X2_answer_152 hd h26 h
    · rw [if_neg (fun z => absurd (hc.symm.trans z) (by decide)), if_neg (fun z => absurd (hc.symm.trans z) (by decide)), if_neg (fun z => absurd (hc.symm.trans z) (by decide)), if_neg (fun z => absurd (hc.symm.trans z) (by decide)), if_neg (fun z => absurd (hc.symm.trans z) (by decide)), if_pos hc] at h
      refine B_X2_answer_157  (fun hc => ?_) (fun hc => ?_)
      · rw [if_neg hc] at h
        obtain ⟨q5, hq, h⟩ := sw_bnd h
        refine B_X2_answer_168  (FC_J9_min_f86c9 (Nat.le_refl _) hq) (Nat.lt_of_lt_of_le (by decide) hd) (fun v s hvs => ?_)
        obtain ⟨hv1, hv2⟩ := hvs; subst hv1; subst hv2
        exact SC_X2_answer_176 hd h26 h
      · rw [if_pos hc] at h
        refine B_X2_answer_162  ?_
        exact SC_X2_answer_176 hd h26 h
    · rw [if_neg n0, if_neg n1, if_neg n2, if_neg n3, if_neg n4, if_neg n5] at h
      exact SC_X2_answer_181 hd h26 h
noncomputable def L_X2_answer_26 : Nat → sw_St → Nat → Int32 → Nat → Int64 → Int32 → Option (Int64 × sw_St)
  | 0, _, _, _, _, _, _ => none
  | k + 1, σ, o1, x2, o3, y4, x6 => S_X2_answer_26 (fun σ o1 x2 o3 y4 x6 => L_X2_answer_26 k σ o1 x2 o3 y4 x6) σ o1 x2 o3 y4 x6
theorem LC_X2_answer_26 {E : sw_E} {d : Nat} (hd : 5 ≤ d) {p : Int64 × sw_St} : ∀ (k : Nat) (σ : sw_St) (o1 : Nat) (x2 : Int32) (o3 : Nat) (y4 : Int64) (x6 : Int32), L_X2_answer_26 k σ o1 x2 o3 y4 x6 = some p → sw_W E sw_gX m_X2_answer d 26 [(0, .ref 33), (1, .ref o1), (2, .int x2), (3, .ref o3), (4, .long y4), (6, .int x6)] [] σ (sw_pL p) := by
  intro k
  induction k with
  | zero => intro σ o1 x2 o3 y4 x6 h; cases h
  | succ k ih => intro σ o1 x2 o3 y4 x6 h; exact SC_X2_answer_26 hd ih h
noncomputable def S_X2_answer_21 (σ : sw_St) (o1 : Nat) (x2 : Int32) (o3 : Nat) (sy0 : Int64) : Option (Int64 × sw_St) :=
  L_X2_answer_26 sw_fuel σ o1 x2 o3 sy0 0
theorem SC_X2_answer_21 {E : sw_E} {d : Nat} (hd : 5 ≤ d) {p : Int64 × sw_St} {σ : sw_St} {o1 : Nat} {x2 : Int32} {o3 : Nat} {sy0 : Int64} (h : S_X2_answer_21 σ o1 x2 o3 sy0 = some p) : sw_W E sw_gX m_X2_answer d 21 [(0, .ref 33), (1, .ref o1), (2, .int x2), (3, .ref o3)] [.long sy0] σ (sw_pL p) := by
  unfold S_X2_answer_21 at h
  refine B_X2_answer_21  ?_
  exact LC_X2_answer_26 hd _ _ _ _ _ _ _ h
noncomputable def S_X2_answer_14 (σ : sw_St) (o1 : Nat) (x2 : Int32) (o3 : Nat) : Option (Int64 × sw_St) :=
  S_X2_answer_21 σ o1 x2 o3 (-1)
theorem SC_X2_answer_14 {E : sw_E} {d : Nat} (hd : 5 ≤ d) {p : Int64 × sw_St} {σ : sw_St} {o1 : Nat} {x2 : Int32} {o3 : Nat} (h : S_X2_answer_14 σ o1 x2 o3 = some p) : sw_W E sw_gX m_X2_answer d 14 [(0, .ref 33), (1, .ref o1), (2, .int x2), (3, .ref o3)] [] σ (sw_pL p) := by
  unfold S_X2_answer_14 at h
  refine B_X2_answer_14  ?_
  exact SC_X2_answer_21 hd h
noncomputable def F_X2_answer (σ : sw_St) (o1 : Nat) (x2 : Int32) (o3 : Nat) : Option (Int64 × sw_St) :=
  if x2 = 281 then (S_X2_answer_14 σ o1 x2 o3) else (if x2 = 282 then (S_X2_answer_14 σ o1 x2 o3) else (S_X2_answer_21 σ o1 x2 o3 0))
theorem FC_X2_answer {E : sw_E} {d : Nat} (hd : 5 ≤ d) {p : Int64 × sw_St} {σ : sw_St} {o1 : Nat} {x2 : Int32} {o3 : Nat} (h : F_X2_answer σ o1 x2 o3 = some p) : sw_KL E sw_gX m_X2_answer d [.ref 33, .ref o1, .int x2, .ref o3] σ (fun v s => v = p.1 ∧ s = p.2) := by
  unfold F_X2_answer at h
  refine sw_K.of (by decide +kernel) rfl (Nat.le_of_ble_eq_true rfl) ?_
  show sw_W E sw_gX m_X2_answer d 0 [(0, .ref 33), (1, .ref o1), (2, .int x2), (3, .ref o3)] [] σ (sw_pL p)
  refine B_X2_answer_0  (fun hc => ?_) (fun hc => ?_)
  · rw [if_pos hc] at h
    exact SC_X2_answer_14 hd h
  · rw [if_neg hc] at h
    refine B_X2_answer_7  (fun hc => ?_) (fun hc => ?_)
    · rw [if_neg hc] at h
      refine B_X2_answer_20  ?_
      exact SC_X2_answer_21 hd h
    · rw [if_pos hc] at h
      exact SC_X2_answer_14 hd h
/-! StrayWool$Foresight.look(II)V -/
noncomputable def F_X1_look (σ : sw_St) (x1 : Int32) (x2 : Int32) : Option (Unit × sw_St) :=
  (F_X8_copyOne σ 46 38 x1).bind fun q1 => (F_X2_goOn q1.2 46 x1 x2).bind fun q2 => some ((), q2.2)
theorem FC_X1_look {E : sw_E} {d : Nat} (hd : 6 ≤ d) {p : Unit × sw_St} {σ : sw_St} {x1 : Int32} {x2 : Int32} (h : F_X1_look σ x1 x2 = some p) : sw_KV E sw_gX m_X1_look d [.ref 54, .int x1, .int x2] σ (fun s => s = p.2) := by
  unfold F_X1_look at h
  refine sw_K.of (by decide +kernel) rfl (Nat.le_of_ble_eq_true rfl) ?_
  show sw_W E sw_gX m_X1_look d 0 [(0, .ref 54), (1, .int x1), (2, .int x2)] [] σ (sw_pV p)
  obtain ⟨q1, hq, h⟩ := sw_bnd h
  refine B_X1_look_0  (FC_X8_copyOne (Nat.le_refl _) hq) (Nat.lt_of_lt_of_le (by decide) hd) (fun s hvs => ?_)
  subst hvs
  obtain ⟨q2, hq, h⟩ := sw_bnd h
  refine B_X1_look_12  (FC_X2_goOn (Nat.le_refl _) hq) (Nat.lt_of_lt_of_le (by decide) hd) (fun s hvs => ?_)
  subst hvs
  cases h
  exact B_X1_look_25  ⟨rfl, rfl⟩
/-! StrayWool$Foresight.daysToHome(I)I -/
noncomputable def S_X1_daysToHome_21 (c21 : sw_St → Int32 → Int32 → Int32 → Option (Int32 × sw_St)) (σ : sw_St) (x1 : Int32) (x2 : Int32) (x3 : Int32) : Option (Int32 × sw_St) :=
  if x2 < x3 then (some ((-1), σ)) else ((F_X2_goOn σ 46 x1 1).bind fun q1 => if sw_inb x1 6 = true then ((q1.2.2.2 33 0).bind fun w3 => (if sw_isO sw_gX w3 9 = true then (if sw_isA sw_gX (w3 + 7) 0 = true then (if sw_inb x1 (sw_ln sw_gX (w3 + 7)) = true then (if (q1.2.1 47 x1.toNatClampNeg) = (q1.2.1 (w3 + 7) x1.toNatClampNeg) then (some (x3, q1.2)) else (c21 q1.2 x1 x2 (x3 + 1))) else none) else none) else none)) else none)
theorem SC_X1_daysToHome_21 {E : sw_E} {d : Nat} (hd : 6 ≤ d) {p : Int32 × sw_St} {c21 : sw_St → Int32 → Int32 → Int32 → Option (Int32 × sw_St)} (h21 : ∀ (σ : sw_St) (x1 : Int32) (x2 : Int32) (x3 : Int32), c21 σ x1 x2 x3 = some p → sw_W E sw_gX m_X1_daysToHome d 21 [(0, .ref 54), (1, .int x1), (2, .int x2), (3, .int x3)] [] σ (sw_pI p)) {σ : sw_St} {x1 : Int32} {x2 : Int32} {x3 : Int32} (h : S_X1_daysToHome_21 c21 σ x1 x2 x3 = some p) : sw_W E sw_gX m_X1_daysToHome d 21 [(0, .ref 54), (1, .int x1), (2, .int x2), (3, .int x3)] [] σ (sw_pI p) := by
  unfold S_X1_daysToHome_21 at h
  refine B_X1_daysToHome_21  (fun hc => ?_) (fun hc => ?_)
  · rw [if_pos hc] at h
    cases h
    exact B_X1_daysToHome_71  ⟨_, rfl, rfl, rfl⟩
  · rw [if_neg hc] at h
    obtain ⟨q1, hq, h⟩ := sw_bnd h
    refine B_X1_daysToHome_26  (FC_X2_goOn (Nat.le_refl _) hq) (Nat.lt_of_lt_of_le (by decide) hd) (fun s hvs => ?_)
    subst hvs
    obtain ⟨o2, h⟩ := sw_ifs h
    obtain ⟨w3, ow3, h⟩ := sw_bnd h
    obtain ⟨o4, h⟩ := sw_ifs h
    obtain ⟨o5, h⟩ := sw_ifs h
    obtain ⟨o6, h⟩ := sw_ifs h
    refine B_X1_daysToHome_39 (sw_inb_sp o2) ow3 o4 o5 (sw_inb_sp o6) (fun hc => ?_) (fun hc => ?_)
    · rw [if_neg hc] at h
      refine B_X1_daysToHome_65  ?_
      exact h21 _ _ _ _ h
    · rw [if_pos hc] at h
      cases h
      exact B_X1_daysToHome_63  ⟨_, rfl, rfl, rfl⟩
noncomputable def L_X1_daysToHome_21 : Nat → sw_St → Int32 → Int32 → Int32 → Option (Int32 × sw_St)
  | 0, _, _, _, _ => none
  | k + 1, σ, x1, x2, x3 => S_X1_daysToHome_21 (fun σ x1 x2 x3 => L_X1_daysToHome_21 k σ x1 x2 x3) σ x1 x2 x3
theorem LC_X1_daysToHome_21 {E : sw_E} {d : Nat} (hd : 6 ≤ d) {p : Int32 × sw_St} : ∀ (k : Nat) (σ : sw_St) (x1 : Int32) (x2 : Int32) (x3 : Int32), L_X1_daysToHome_21 k σ x1 x2 x3 = some p → sw_W E sw_gX m_X1_daysToHome d 21 [(0, .ref 54), (1, .int x1), (2, .int x2), (3, .int x3)] [] σ (sw_pI p) := by
  intro k
  induction k with
  | zero => intro σ x1 x2 x3 h; cases h
  | succ k ih => intro σ x1 x2 x3 h; exact SC_X1_daysToHome_21 hd ih h
noncomputable def F_X1_daysToHome (σ : sw_St) (x1 : Int32) : Option (Int32 × sw_St) :=
  (F_X1_daysAtMost σ 60).bind fun q1 => (F_X8_copyOne q1.2 46 38 x1).bind fun q2 => L_X1_daysToHome_21 sw_fuel q2.2 x1 q1.1 1
theorem FC_X1_daysToHome {E : sw_E} {d : Nat} (hd : 6 ≤ d) {p : Int32 × sw_St} {σ : sw_St} {x1 : Int32} (h : F_X1_daysToHome σ x1 = some p) : sw_KI E sw_gX m_X1_daysToHome d [.ref 54, .int x1] σ (fun v s => v = p.1 ∧ s = p.2) := by
  unfold F_X1_daysToHome at h
  refine sw_K.of (by decide +kernel) rfl (Nat.le_of_ble_eq_true rfl) ?_
  show sw_W E sw_gX m_X1_daysToHome d 0 [(0, .ref 54), (1, .int x1)] [] σ (sw_pI p)
  obtain ⟨q1, hq, h⟩ := sw_bnd h
  refine B_X1_daysToHome_0  (FC_X1_daysAtMost (Nat.le_refl _) hq) (Nat.lt_of_lt_of_le (by decide) hd) (fun v s hvs => ?_)
  obtain ⟨hv1, hv2⟩ := hvs; subst hv1; subst hv2
  obtain ⟨q2, hq, h⟩ := sw_bnd h
  refine B_X1_daysToHome_6  (FC_X8_copyOne (Nat.le_refl _) hq) (Nat.lt_of_lt_of_le (by decide) hd) (fun s hvs => ?_)
  subst hvs
  refine B_X1_daysToHome_19  ?_
  exact LC_X1_daysToHome_21 hd _ _ _ _ _ h
/-! StrayWool$Foresight.bestRumour(II)I -/
noncomputable def S_X1_bestRumour_157 (σ : sw_St) (sx0 : Int32) : Option (Int32 × sw_St) :=
  some (sx0, σ)
theorem SC_X1_bestRumour_157 {E : sw_E} {d : Nat} (hd : 6 ≤ d) {p : Int32 × sw_St} {σ : sw_St} {sx0 : Int32} (h : S_X1_bestRumour_157 σ sx0 = some p) : sw_W E sw_gX m_X1_bestRumour d 157 [] [.int sx0] σ (sw_pI p) := by
  unfold S_X1_bestRumour_157 at h
  cases h
  exact B_X1_bestRumour_157  ⟨_, rfl, rfl, rfl⟩
noncomputable def S_X1_bestRumour_141 (c8 : sw_St → Int32 → Int32 → Int32 → Int32 → Int32 → Option (Int32 × sw_St)) (σ : sw_St) (x1 : Int32) (x2 : Int32) (x3 : Int32) (x4 : Int32) (x5 : Int32) : Option (Int32 × sw_St) :=
  c8 σ x1 x2 x3 x4 (x5 + 1)
theorem SC_X1_bestRumour_141 {E : sw_E} {d : Nat} (hd : 6 ≤ d) {p : Int32 × sw_St} {c8 : sw_St → Int32 → Int32 → Int32 → Int32 → Int32 → Option (Int32 × sw_St)} (h8 : ∀ (σ : sw_St) (x1 : Int32) (x2 : Int32) (x3 : Int32) (x4 : Int32) (x5 : Int32), c8 σ x1 x2 x3 x4 x5 = some p → sw_W E sw_gX m_X1_bestRumour d 8 [(0, .ref 54), (1, .int x1), (2, .int x2), (3, .int x3), (4, .int x4), (5, .int x5)] [] σ (sw_pI p)) {σ : sw_St} {x1 : Int32} {x2 : Int32} {x3 : Int32} {x4 : Int32} {x5 : Int32} (h : S_X1_bestRumour_141 c8 σ x1 x2 x3 x4 x5 = some p) : sw_W E sw_gX m_X1_bestRumour d 141 [(0, .ref 54), (1, .int x1), (2, .int x2), (3, .int x3), (4, .int x4), (5, .int x5)] [] σ (sw_pI p) := by
  unfold S_X1_bestRumour_141 at h
  refine B_X1_bestRumour_141  ?_
  exact h8 _ _ _ _ _ _ h
noncomputable def S_X1_bestRumour_89 (c8 : sw_St → Int32 → Int32 → Int32 → Int32 → Int32 → Option (Int32 × sw_St)) (c29 : sw_St → Int32 → Int32 → Int32 → Int32 → Int32 → Int32 → Int32 → Option (Int32 × sw_St)) (σ : sw_St) (x1 : Int32) (x2 : Int32) (x3 : Int32) (x4 : Int32) (x5 : Int32) (x6 : Int32) (x7 : Int32) (sx0 : Int32) : Option (Int32 × sw_St) :=
  (F_X2_goOn (sw_uI σ 46 2 sx0) 46 x7 x1).bind fun q1 => if sw_inb x7 6 = true then (c29 q1.2 x1 x2 x3 x4 x5 (x6 + (q1.2.1 48 x7.toNatClampNeg)) (x7 + 1)) else none
theorem SC_X1_bestRumour_89 {E : sw_E} {d : Nat} (hd : 6 ≤ d) {p : Int32 × sw_St} {c8 : sw_St → Int32 → Int32 → Int32 → Int32 → Int32 → Option (Int32 × sw_St)} {c29 : sw_St → Int32 → Int32 → Int32 → Int32 → Int32 → Int32 → Int32 → Option (Int32 × sw_St)} (h8 : ∀ (σ : sw_St) (x1 : Int32) (x2 : Int32) (x3 : Int32) (x4 : Int32) (x5 : Int32), c8 σ x1 x2 x3 x4 x5 = some p → sw_W E sw_gX m_X1_bestRumour d 8 [(0, .ref 54), (1, .int x1), (2, .int x2), (3, .int x3), (4, .int x4), (5, .int x5)] [] σ (sw_pI p)) (h29 : ∀ (σ : sw_St) (x1 : Int32) (x2 : Int32) (x3 : Int32) (x4 : Int32) (x5 : Int32) (x6 : Int32) (x7 : Int32), c29 σ x1 x2 x3 x4 x5 x6 x7 = some p → sw_W E sw_gX m_X1_bestRumour d 29 [(0, .ref 54), (1, .int x1), (2, .int x2), (3, .int x3), (4, .int x4), (5, .int x5), (6, .int x6), (7, .int x7)] [] σ (sw_pI p)) {σ : sw_St} {x1 : Int32} {x2 : Int32} {x3 : Int32} {x4 : Int32} {x5 : Int32} {x6 : Int32} {x7 : Int32} {sx0 : Int32} (h : S_X1_bestRumour_89 c8 c29 σ x1 x2 x3 x4 x5 x6 x7 sx0 = some p) : sw_W E sw_gX m_X1_bestRumour d 89 [(0, .ref 54), (1, .int x1), (2, .int x2), (3, .int x3), (4, .int x4), (5, .int x5), (6, .int x6), (7, .int x7)] [.int sx0, .ref 46] σ (sw_pI p) := by
  unfold S_X1_bestRumour_89 at h
  obtain ⟨q1, hq, h⟩ := sw_bnd h
  refine B_X1_bestRumour_89  (FC_X2_goOn (Nat.le_refl _) hq) (Nat.lt_of_lt_of_le (by decide) hd) (fun s hvs => ?_)
  subst hvs
  obtain ⟨o2, h⟩ := sw_ifs h
  refine B_X1_bestRumour_106 (sw_inb_sp o2) ?_
  exact h29 _ _ _ _ _ _ _ _ h
noncomputable def S_X1_bestRumour_29 (c8 : sw_St → Int32 → Int32 → Int32 → Int32 → Int32 → Option (Int32 × sw_St)) (c29 : sw_St → Int32 → Int32 → Int32 → Int32 → Int32 → Int32 → Int32 → Option (Int32 × sw_St)) (σ : sw_St) (x1 : Int32) (x2 : Int32) (x3 : Int32) (x4 : Int32) (x5 : Int32) (x6 : Int32) (x7 : Int32) : Option (Int32 × sw_St) :=
  (σ.2.2 33 0).bind fun w1 => (if sw_isO sw_gX w1 9 = true then (if (σ.1 w1 3) ≤ x7 then (if x6 ≤ x4 then (S_X1_bestRumour_141 c8 σ x1 x2 x3 x4 x5) else (S_X1_bestRumour_141 c8 σ x1 x2 x5 x6 x5)) else ((F_X8_copyOne σ 46 38 x7).bind fun q3 => if x5 = (-1) then (S_X1_bestRumour_89 c8 c29 q3.2 x1 x2 x3 x4 x5 x6 x7 (q3.2.1 38 2)) else (S_X1_bestRumour_89 c8 c29 q3.2 x1 x2 x3 x4 x5 x6 x7 ((q3.2.1 38 2) ^^^ ((1 : Int32) <<< (x5 &&& 31)))))) else none)
theorem SC_X1_bestRumour_29 {E : sw_E} {d : Nat} (hd : 6 ≤ d) {p : Int32 × sw_St} {c8 : sw_St → Int32 → Int32 → Int32 → Int32 → Int32 → Option (Int32 × sw_St)} {c29 : sw_St → Int32 → Int32 → Int32 → Int32 → Int32 → Int32 → Int32 → Option (Int32 × sw_St)} (h8 : ∀ (σ : sw_St) (x1 : Int32) (x2 : Int32) (x3 : Int32) (x4 : Int32) (x5 : Int32), c8 σ x1 x2 x3 x4 x5 = some p → sw_W E sw_gX m_X1_bestRumour d 8 [(0, .ref 54), (1, .int x1), (2, .int x2), (3, .int x3), (4, .int x4), (5, .int x5)] [] σ (sw_pI p)) (h29 : ∀ (σ : sw_St) (x1 : Int32) (x2 : Int32) (x3 : Int32) (x4 : Int32) (x5 : Int32) (x6 : Int32) (x7 : Int32), c29 σ x1 x2 x3 x4 x5 x6 x7 = some p → sw_W E sw_gX m_X1_bestRumour d 29 [(0, .ref 54), (1, .int x1), (2, .int x2), (3, .int x3), (4, .int x4), (5, .int x5), (6, .int x6), (7, .int x7)] [] σ (sw_pI p)) {σ : sw_St} {x1 : Int32} {x2 : Int32} {x3 : Int32} {x4 : Int32} {x5 : Int32} {x6 : Int32} {x7 : Int32} (h : S_X1_bestRumour_29 c8 c29 σ x1 x2 x3 x4 x5 x6 x7 = some p) : sw_W E sw_gX m_X1_bestRumour d 29 [(0, .ref 54), (1, .int x1), (2, .int x2), (3, .int x3), (4, .int x4), (5, .int x5), (6, .int x6), (7, .int x7)] [] σ (sw_pI p) := by
  unfold S_X1_bestRumour_29 at h
  obtain ⟨w1, ow1, h⟩ := sw_bnd h
  obtain ⟨o2, h⟩ := sw_ifs h
  refine B_X1_bestRumour_29 ow1 o2 (fun hc => ?_) (fun hc => ?_)
  · rw [if_pos hc] at h
    refine B_X1_bestRumour_127  (fun hc => ?_) (fun hc => ?_)
    · rw [if_pos hc] at h
      exact SC_X1_bestRumour_141 hd h8 h
    · rw [if_neg hc] at h
      refine B_X1_bestRumour_134  ?_
      exact SC_X1_bestRumour_141 hd h8 h
  · rw [if_neg hc] at h
    obtain ⟨q3, hq, h⟩ := sw_bnd h
    refine B_X1_bestRumour_44  (FC_X8_copyOne (Nat.le_refl _) hq) (Nat.lt_of_lt_of_le (by decide) hd) (fun s hvs => ?_)
    subst hvs
    refine B_X1_bestRumour_57  (fun hc => ?_) (fun hc => ?_)
    · rw [if_neg hc] at h
      refine B_X1_bestRumour_77  ?_
      exact SC_X1_bestRumour_89 hd h8 h29 h
    · rw [if_pos hc] at h
      refine B_X1_bestRumour_67  ?_
      exact SC_X1_bestRumour_89 hd h8 h29 h
noncomputable def L_X1_bestRumour_29 (c8 : sw_St → Int32 → Int32 → Int32 → Int32 → Int32 → Option (Int32 × sw_St)) : Nat → sw_St → Int32 → Int32 → Int32 → Int32 → Int32 → Int32 → Int32 → Option (Int32 × sw_St)
  | 0, _, _, _, _, _, _, _, _ => none
  | k + 1, σ, x1, x2, x3, x4, x5, x6, x7 => S_X1_bestRumour_29 c8 (fun σ x1 x2 x3 x4 x5 x6 x7 => L_X1_bestRumour_29 c8 k σ x1 x2 x3 x4 x5 x6 x7) σ x1 x2 x3 x4 x5 x6 x7
theorem LC_X1_bestRumour_29 {E : sw_E} {d : Nat} (hd : 6 ≤ d) {p : Int32 × sw_St} {c8 : sw_St → Int32 → Int32 → Int32 → Int32 → Int32 → Option (Int32 × sw_St)} (h8 : ∀ (σ : sw_St) (x1 : Int32) (x2 : Int32) (x3 : Int32) (x4 : Int32) (x5 : Int32), c8 σ x1 x2 x3 x4 x5 = some p → sw_W E sw_gX m_X1_bestRumour d 8 [(0, .ref 54), (1, .int x1), (2, .int x2), (3, .int x3), (4, .int x4), (5, .int x5)] [] σ (sw_pI p)) : ∀ (k : Nat) (σ : sw_St) (x1 : Int32) (x2 : Int32) (x3 : Int32) (x4 : Int32) (x5 : Int32) (x6 : Int32) (x7 : Int32), L_X1_bestRumour_29 c8 k σ x1 x2 x3 x4 x5 x6 x7 = some p → sw_W E sw_gX m_X1_bestRumour d 29 [(0, .ref 54), (1, .int x1), (2, .int x2), (3, .int x3), (4, .int x4), (5, .int x5), (6, .int x6), (7, .int x7)] [] σ (sw_pI p) := by
  intro k
  induction k with
  | zero => intro σ x1 x2 x3 x4 x5 x6 x7 h; cases h
  | succ k ih => intro σ x1 x2 x3 x4 x5 x6 x7 h; exact SC_X1_bestRumour_29 hd h8 ih h
noncomputable def S_X1_bestRumour_8 (c8 : sw_St → Int32 → Int32 → Int32 → Int32 → Int32 → Option (Int32 × sw_St)) (σ : sw_St) (x1 : Int32) (x2 : Int32) (x3 : Int32) (x4 : Int32) (x5 : Int32) : Option (Int32 × sw_St) :=
  (σ.2.2 33 0).bind fun w1 => (if sw_isO sw_gX w1 9 = true then (if (σ.1 w1 2) ≤ x5 then (if x2 = 0 then (S_X1_bestRumour_157 σ x3) else (S_X1_bestRumour_157 σ x4)) else (L_X1_bestRumour_29 c8 sw_fuel σ x1 x2 x3 x4 x5 0 0)) else none)
theorem SC_X1_bestRumour_8 {E : sw_E} {d : Nat} (hd : 6 ≤ d) {p : Int32 × sw_St} {c8 : sw_St → Int32 → Int32 → Int32 → Int32 → Int32 → Option (Int32 × sw_St)} (h8 : ∀ (σ : sw_St) (x1 : Int32) (x2 : Int32) (x3 : Int32) (x4 : Int32) (x5 : Int32), c8 σ x1 x2 x3 x4 x5 = some p → sw_W E sw_gX m_X1_bestRumour d 8 [(0, .ref 54), (1, .int x1), (2, .int x2), (3, .int x3), (4, .int x4), (5, .int x5)] [] σ (sw_pI p)) {σ : sw_St} {x1 : Int32} {x2 : Int32} {x3 : Int32} {x4 : Int32} {x5 : Int32} (h : S_X1_bestRumour_8 c8 σ x1 x2 x3 x4 x5 = some p) : sw_W E sw_gX m_X1_bestRumour d 8 [(0, .ref 54), (1, .int x1), (2, .int x2), (3, .int x3), (4, .int x4), (5, .int x5)] [] σ (sw_pI p) := by
  unfold S_X1_bestRumour_8 at h
  obtain ⟨w1, ow1, h⟩ := sw_bnd h
  obtain ⟨o2, h⟩ := sw_ifs h
  refine B_X1_bestRumour_8 ow1 o2 (fun hc => ?_) (fun hc => ?_)
  · rw [if_pos hc] at h
    refine B_X1_bestRumour_147  (fun hc => ?_) (fun hc => ?_)
    · rw [if_neg hc] at h
      refine B_X1_bestRumour_155  ?_
      exact SC_X1_bestRumour_157 hd h
    · rw [if_pos hc] at h
      refine B_X1_bestRumour_151  ?_
      exact SC_X1_bestRumour_157 hd h
  · rw [if_neg hc] at h
    refine B_X1_bestRumour_23  ?_
    exact LC_X1_bestRumour_29 hd h8 _ _ _ _ _ _ _ _ _ h
noncomputable def L_X1_bestRumour_8 : Nat → sw_St → Int32 → Int32 → Int32 → Int32 → Int32 → Option (Int32 × sw_St)
  | 0, _, _, _, _, _, _ => none
  | k + 1, σ, x1, x2, x3, x4, x5 => S_X1_bestRumour_8 (fun σ x1 x2 x3 x4 x5 => L_X1_bestRumour_8 k σ x1 x2 x3 x4 x5) σ x1 x2 x3 x4 x5
theorem LC_X1_bestRumour_8 {E : sw_E} {d : Nat} (hd : 6 ≤ d) {p : Int32 × sw_St} : ∀ (k : Nat) (σ : sw_St) (x1 : Int32) (x2 : Int32) (x3 : Int32) (x4 : Int32) (x5 : Int32), L_X1_bestRumour_8 k σ x1 x2 x3 x4 x5 = some p → sw_W E sw_gX m_X1_bestRumour d 8 [(0, .ref 54), (1, .int x1), (2, .int x2), (3, .int x3), (4, .int x4), (5, .int x5)] [] σ (sw_pI p) := by
  intro k
  induction k with
  | zero => intro σ x1 x2 x3 x4 x5 h; cases h
  | succ k ih => intro σ x1 x2 x3 x4 x5 h; exact SC_X1_bestRumour_8 hd ih h
noncomputable def F_X1_bestRumour (σ : sw_St) (x1 : Int32) (x2 : Int32) : Option (Int32 × sw_St) :=
  L_X1_bestRumour_8 sw_fuel σ x1 x2 (-1) (-1) (-1)
theorem FC_X1_bestRumour {E : sw_E} {d : Nat} (hd : 6 ≤ d) {p : Int32 × sw_St} {σ : sw_St} {x1 : Int32} {x2 : Int32} (h : F_X1_bestRumour σ x1 x2 = some p) : sw_KI E sw_gX m_X1_bestRumour d [.ref 54, .int x1, .int x2] σ (fun v s => v = p.1 ∧ s = p.2) := by
  unfold F_X1_bestRumour at h
  refine sw_K.of (by decide +kernel) rfl (Nat.le_of_ble_eq_true rfl) ?_
  show sw_W E sw_gX m_X1_bestRumour d 0 [(0, .ref 54), (1, .int x1), (2, .int x2)] [] σ (sw_pI p)
  refine B_X1_bestRumour_0  ?_
  exact LC_X1_bestRumour_8 hd _ _ _ _ _ _ _ h
/-! StrayWool$Foresight.bestWait(III)I -/
noncomputable def S_X1_bestWait_97 (σ : sw_St) (sx0 : Int32) : Option (Int32 × sw_St) :=
  some (sx0, σ)
theorem SC_X1_bestWait_97 {E : sw_E} {d : Nat} (hd : 6 ≤ d) {p : Int32 × sw_St} {σ : sw_St} {sx0 : Int32} (h : S_X1_bestWait_97 σ sx0 = some p) : sw_W E sw_gX m_X1_bestWait d 97 [] [.int sx0] σ (sw_pI p) := by
  unfold S_X1_bestWait_97 at h
  cases h
  exact B_X1_bestWait_97  ⟨_, rfl, rfl, rfl⟩
noncomputable def S_X1_bestWait_80 (c32 : sw_St → Int32 → Int32 → Int32 → Int32 → Int32 → Int32 → Option (Int32 × sw_St)) (σ : sw_St) (x1 : Int32) (x2 : Int32) (x3 : Int32) (x4 : Int32) (x5 : Int32) (x6 : Int32) : Option (Int32 × sw_St) :=
  c32 σ x1 x2 x3 x4 x5 (x6 + 1)
theorem SC_X1_bestWait_80 {E : sw_E} {d : Nat} (hd : 6 ≤ d) {p : Int32 × sw_St} {c32 : sw_St → Int32 → Int32 → Int32 → Int32 → Int32 → Int32 → Option (Int32 × sw_St)} (h32 : ∀ (σ : sw_St) (x1 : Int32) (x2 : Int32) (x3 : Int32) (x4 : Int32) (x5 : Int32) (x6 : Int32), c32 σ x1 x2 x3 x4 x5 x6 = some p → sw_W E sw_gX m_X1_bestWait d 32 [(0, .ref 54), (1, .int x1), (2, .int x2), (3, .int x3), (4, .int x4), (5, .int x5), (6, .int x6)] [] σ (sw_pI p)) {σ : sw_St} {x1 : Int32} {x2 : Int32} {x3 : Int32} {x4 : Int32} {x5 : Int32} {x6 : Int32} (h : S_X1_bestWait_80 c32 σ x1 x2 x3 x4 x5 x6 = some p) : sw_W E sw_gX m_X1_bestWait d 80 [(0, .ref 54), (1, .int x1), (2, .int x2), (3, .int x3), (4, .int x4), (5, .int x5), (6, .int x6)] [] σ (sw_pI p) := by
  unfold S_X1_bestWait_80 at h
  refine B_X1_bestWait_80  ?_
  exact h32 _ _ _ _ _ _ _ h
noncomputable def S_X1_bestWait_32 (c32 : sw_St → Int32 → Int32 → Int32 → Int32 → Int32 → Int32 → Option (Int32 × sw_St)) (σ : sw_St) (x1 : Int32) (x2 : Int32) (x3 : Int32) (x4 : Int32) (x5 : Int32) (x6 : Int32) : Option (Int32 × sw_St) :=
  if x2 < x6 then (if x3 = 0 then (S_X1_bestWait_97 σ x4) else (S_X1_bestWait_97 σ x5)) else ((F_X2_goOn σ 46 x1 1).bind fun q1 => (F_X2_worthOf q1.2 46 x1).bind fun q2 => if q2.1 ≤ x5 then (S_X1_bestWait_80 c32 q2.2 x1 x2 x3 x4 x5 x6) else (S_X1_bestWait_80 c32 q2.2 x1 x2 x3 x6 q2.1 x6))
theorem SC_X1_bestWait_32 {E : sw_E} {d : Nat} (hd : 6 ≤ d) {p : Int32 × sw_St} {c32 : sw_St → Int32 → Int32 → Int32 → Int32 → Int32 → Int32 → Option (Int32 × sw_St)} (h32 : ∀ (σ : sw_St) (x1 : Int32) (x2 : Int32) (x3 : Int32) (x4 : Int32) (x5 : Int32) (x6 : Int32), c32 σ x1 x2 x3 x4 x5 x6 = some p → sw_W E sw_gX m_X1_bestWait d 32 [(0, .ref 54), (1, .int x1), (2, .int x2), (3, .int x3), (4, .int x4), (5, .int x5), (6, .int x6)] [] σ (sw_pI p)) {σ : sw_St} {x1 : Int32} {x2 : Int32} {x3 : Int32} {x4 : Int32} {x5 : Int32} {x6 : Int32} (h : S_X1_bestWait_32 c32 σ x1 x2 x3 x4 x5 x6 = some p) : sw_W E sw_gX m_X1_bestWait d 32 [(0, .ref 54), (1, .int x1), (2, .int x2), (3, .int x3), (4, .int x4), (5, .int x5), (6, .int x6)] [] σ (sw_pI p) := by
  unfold S_X1_bestWait_32 at h
  refine B_X1_bestWait_32  (fun hc => ?_) (fun hc => ?_)
  · rw [if_pos hc] at h
    refine B_X1_bestWait_86  (fun hc => ?_) (fun hc => ?_)
    · rw [if_neg hc] at h
      refine B_X1_bestWait_95  ?_
      exact SC_X1_bestWait_97 hd h
    · rw [if_pos hc] at h
      refine B_X1_bestWait_90  ?_
      exact SC_X1_bestWait_97 hd h
  · rw [if_neg hc] at h
    obtain ⟨q1, hq, h⟩ := sw_bnd h
    refine B_X1_bestWait_38  (FC_X2_goOn (Nat.le_refl _) hq) (Nat.lt_of_lt_of_le (by decide) hd) (fun s hvs => ?_)
    subst hvs
    obtain ⟨q2, hq, h⟩ := sw_bnd h
    refine B_X1_bestWait_51  (FC_X2_worthOf (Nat.le_refl _) hq) (Nat.lt_of_lt_of_le (by decide) hd) (fun v s hvs => ?_)
    obtain ⟨hv1, hv2⟩ := hvs; subst hv1; subst hv2
    refine B_X1_bestWait_63  (fun hc => ?_) (fun hc => ?_)
    · rw [if_pos hc] at h
      exact SC_X1_bestWait_80 hd h32 h
    · rw [if_neg hc] at h
      refine B_X1_bestWait_72  ?_
      exact SC_X1_bestWait_80 hd h32 h
noncomputable def L_X1_bestWait_32 : Nat → sw_St → Int32 → Int32 → Int32 → Int32 → Int32 → Int32 → Option (Int32 × sw_St)
  | 0, _, _, _, _, _, _, _ => none
  | k + 1, σ, x1, x2, x3, x4, x5, x6 => S_X1_bestWait_32 (fun σ x1 x2 x3 x4 x5 x6 => L_X1_bestWait_32 k σ x1 x2 x3 x4 x5 x6) σ x1 x2 x3 x4 x5 x6
theorem LC_X1_bestWait_32 {E : sw_E} {d : Nat} (hd : 6 ≤ d) {p : Int32 × sw_St} : ∀ (k : Nat) (σ : sw_St) (x1 : Int32) (x2 : Int32) (x3 : Int32) (x4 : Int32) (x5 : Int32) (x6 : Int32), L_X1_bestWait_32 k σ x1 x2 x3 x4 x5 x6 = some p → sw_W E sw_gX m_X1_bestWait d 32 [(0, .ref 54), (1, .int x1), (2, .int x2), (3, .int x3), (4, .int x4), (5, .int x5), (6, .int x6)] [] σ (sw_pI p) := by
  intro k
  induction k with
  | zero => intro σ x1 x2 x3 x4 x5 x6 h; cases h
  | succ k ih => intro σ x1 x2 x3 x4 x5 x6 h; exact SC_X1_bestWait_32 hd ih h
noncomputable def F_X1_bestWait (σ : sw_St) (x1 : Int32) (x2 : Int32) (x3 : Int32) : Option (Int32 × sw_St) :=
  (F_X8_copyOne σ 46 38 x1).bind fun q1 => (F_X2_worthOf q1.2 46 x1).bind fun q2 => L_X1_bestWait_32 sw_fuel q2.2 x1 x2 x3 0 q2.1 1
theorem FC_X1_bestWait {E : sw_E} {d : Nat} (hd : 6 ≤ d) {p : Int32 × sw_St} {σ : sw_St} {x1 : Int32} {x2 : Int32} {x3 : Int32} (h : F_X1_bestWait σ x1 x2 x3 = some p) : sw_KI E sw_gX m_X1_bestWait d [.ref 54, .int x1, .int x2, .int x3] σ (fun v s => v = p.1 ∧ s = p.2) := by
  unfold F_X1_bestWait at h
  refine sw_K.of (by decide +kernel) rfl (Nat.le_of_ble_eq_true rfl) ?_
  show sw_W E sw_gX m_X1_bestWait d 0 [(0, .ref 54), (1, .int x1), (2, .int x2), (3, .int x3)] [] σ (sw_pI p)
  obtain ⟨q1, hq, h⟩ := sw_bnd h
  refine B_X1_bestWait_0  (FC_X8_copyOne (Nat.le_refl _) hq) (Nat.lt_of_lt_of_le (by decide) hd) (fun s hvs => ?_)
  subst hvs
  obtain ⟨q2, hq, h⟩ := sw_bnd h
  refine B_X1_bestWait_12  (FC_X2_worthOf (Nat.le_refl _) hq) (Nat.lt_of_lt_of_le (by decide) hd) (fun v s hvs => ?_)
  obtain ⟨hv1, hv2⟩ := hvs; subst hv1; subst hv2
  refine B_X1_bestWait_27  ?_
  exact LC_X1_bestWait_32 hd _ _ _ _ _ _ _ _ h
/-! StrayWool$Foresight.leastWatch(I)I -/
noncomputable def S_X1_leastWatch_119 (c72 : sw_St → Int32 → Int32 → Int32 → Option (Int32 × sw_St)) (σ : sw_St) (x2 : Int32) (x3 : Int32) (x4 : Int32) : Option (Int32 × sw_St) :=
  c72 σ x2 x3 (x4 + 1)
theorem SC_X1_leastWatch_119 {E : sw_E} {d : Nat} (hd : 6 ≤ d) {p : Int32 × sw_St} {c72 : sw_St → Int32 → Int32 → Int32 → Option (Int32 × sw_St)} (h72 : ∀ (σ : sw_St) (x2 : Int32) (x3 : Int32) (x4 : Int32), c72 σ x2 x3 x4 = some p → sw_W E sw_gX m_X1_leastWatch d 72 [(0, .ref 54), (2, .int x2), (3, .int x3), (4, .int x4)] [] σ (sw_pI p)) {σ : sw_St} {x2 : Int32} {x3 : Int32} {x4 : Int32} (h : S_X1_leastWatch_119 c72 σ x2 x3 x4 = some p) : sw_W E sw_gX m_X1_leastWatch d 119 [(0, .ref 54), (2, .int x2), (3, .int x3), (4, .int x4)] [] σ (sw_pI p) := by
  unfold S_X1_leastWatch_119 at h
  refine B_X1_leastWatch_119  ?_
  exact h72 _ _ _ _ h
noncomputable def S_X1_leastWatch_116 (c72 : sw_St → Int32 → Int32 → Int32 → Option (Int32 × sw_St)) (σ : sw_St) (x2 : Int32) (x4 : Int32) : Option (Int32 × sw_St) :=
  S_X1_leastWatch_119 c72 σ x2 x4 x4
theorem SC_X1_leastWatch_116 {E : sw_E} {d : Nat} (hd : 6 ≤ d) {p : Int32 × sw_St} {c72 : sw_St → Int32 → Int32 → Int32 → Option (Int32 × sw_St)} (h72 : ∀ (σ : sw_St) (x2 : Int32) (x3 : Int32) (x4 : Int32), c72 σ x2 x3 x4 = some p → sw_W E sw_gX m_X1_leastWatch d 72 [(0, .ref 54), (2, .int x2), (3, .int x3), (4, .int x4)] [] σ (sw_pI p)) {σ : sw_St} {x2 : Int32} {x4 : Int32} (h : S_X1_leastWatch_116 c72 σ x2 x4 = some p) : sw_W E sw_gX m_X1_leastWatch d 116 [(0, .ref 54), (2, .int x2), (4, .int x4)] [] σ (sw_pI p) := by
  unfold S_X1_leastWatch_116 at h
  refine B_X1_leastWatch_116  ?_
  exact SC_X1_leastWatch_119 hd h72 h
noncomputable def S_X1_leastWatch_72 (c72 : sw_St → Int32 → Int32 → Int32 → Option (Int32 × sw_St)) (σ : sw_St) (x2 : Int32) (x3 : Int32) (x4 : Int32) : Option (Int32 × sw_St) :=
  (σ.2.2 33 0).bind fun w1 => (if sw_isO sw_gX w1 9 = true then (if ((1 : Int32) <<< ((σ.1 w1 1) &&& 31)) ≤ x4 then (some (x3, σ)) else ((F_X1_watches σ x4 x2).bind fun q3 => if q3.1 = 0 then (S_X1_leastWatch_119 c72 q3.2 x2 x3 x4) else (if x3 = (-1) then (S_X1_leastWatch_116 c72 q3.2 x2 x4) else ((F_J6_bitCount_0f7a4 q3.2 x4).bind fun q4 => (F_J6_bitCount_0f7a4 q4.2 x3).bind fun q5 => if q5.1 ≤ q4.1 then (S_X1_leastWatch_119 c72 q5.2 x2 x3 x4) else (S_X1_leastWatch_116 c72 q5.2 x2 x4))))) else none)
theorem SC_X1_leastWatch_72 {E : sw_E} {d : Nat} (hd : 6 ≤ d) {p : Int32 × sw_St} {c72 : sw_St → Int32 → Int32 → Int32 → Option (Int32 × sw_St)} (h72 : ∀ (σ : sw_St) (x2 : Int32) (x3 : Int32) (x4 : Int32), c72 σ x2 x3 x4 = some p → sw_W E sw_gX m_X1_leastWatch d 72 [(0, .ref 54), (2, .int x2), (3, .int x3), (4, .int x4)] [] σ (sw_pI p)) {σ : sw_St} {x2 : Int32} {x3 : Int32} {x4 : Int32} (h : S_X1_leastWatch_72 c72 σ x2 x3 x4 = some p) : sw_W E sw_gX m_X1_leastWatch d 72 [(0, .ref 54), (2, .int x2), (3, .int x3), (4, .int x4)] [] σ (sw_pI p) := by
  unfold S_X1_leastWatch_72 at h
  obtain ⟨w1, ow1, h⟩ := sw_bnd h
  obtain ⟨o2, h⟩ := sw_ifs h
  refine B_X1_leastWatch_72 ow1 o2 (fun hc => ?_) (fun hc => ?_)
  · rw [if_pos hc] at h
    cases h
    exact B_X1_leastWatch_125  ⟨_, rfl, rfl, rfl⟩
  · rw [if_neg hc] at h
    obtain ⟨q3, hq, h⟩ := sw_bnd h
    refine B_X1_leastWatch_89  (FC_X1_watches (Nat.le_refl _) hq) (Nat.lt_of_lt_of_le (by decide) hd) (fun v s hvs => ?_)
    obtain ⟨hv1, hv2⟩ := hvs; subst hv1; subst hv2
    refine B_X1_leastWatch_96  (fun hc => ?_) (fun hc => ?_)
    · rw [if_pos hc] at h
      exact SC_X1_leastWatch_119 hd h72 h
    · rw [if_neg hc] at h
      refine B_X1_leastWatch_99  (fun hc => ?_) (fun hc => ?_)
      · rw [if_pos hc] at h
        exact SC_X1_leastWatch_116 hd h72 h
      · rw [if_neg hc] at h
        obtain ⟨q4, hq, h⟩ := sw_bnd h
        refine B_X1_leastWatch_104  (FC_J6_bitCount_0f7a4 (Nat.le_refl _) hq) (Nat.lt_of_lt_of_le (by decide) hd) (fun v s hvs => ?_)
        obtain ⟨hv1, hv2⟩ := hvs; subst hv1; subst hv2
        obtain ⟨q5, hq, h⟩ := sw_bnd h
        refine B_X1_leastWatch_109  (FC_J6_bitCount_0f7a4 (Nat.le_refl _) hq) (Nat.lt_of_lt_of_le (by decide) hd) (fun v s hvs => ?_)
        obtain ⟨hv1, hv2⟩ := hvs; subst hv1; subst hv2
        refine B_X1_leastWatch_113  (fun hc => ?_) (fun hc => ?_)
        · rw [if_pos hc] at h
          exact SC_X1_leastWatch_119 hd h72 h
        · rw [if_neg hc] at h
          exact SC_X1_leastWatch_116 hd h72 h
noncomputable def L_X1_leastWatch_72 : Nat → sw_St → Int32 → Int32 → Int32 → Option (Int32 × sw_St)
  | 0, _, _, _, _ => none
  | k + 1, σ, x2, x3, x4 => S_X1_leastWatch_72 (fun σ x2 x3 x4 => L_X1_leastWatch_72 k σ x2 x3 x4) σ x2 x3 x4
theorem LC_X1_leastWatch_72 {E : sw_E} {d : Nat} (hd : 6 ≤ d) {p : Int32 × sw_St} : ∀ (k : Nat) (σ : sw_St) (x2 : Int32) (x3 : Int32) (x4 : Int32), L_X1_leastWatch_72 k σ x2 x3 x4 = some p → sw_W E sw_gX m_X1_leastWatch d 72 [(0, .ref 54), (2, .int x2), (3, .int x3), (4, .int x4)] [] σ (sw_pI p) := by
  intro k
  induction k with
  | zero => intro σ x2 x3 x4 h; cases h
  | succ k ih => intro σ x2 x3 x4 h; exact SC_X1_leastWatch_72 hd ih h
noncomputable def S_X1_leastWatch_4 (c4 : sw_St → Int32 → Int32 → Int32 → Option (Int32 × sw_St)) (σ : sw_St) (x1 : Int32) (x2 : Int32) (x3 : Int32) : Option (Int32 × sw_St) :=
  (σ.2.2 33 0).bind fun w1 => (if sw_isO sw_gX w1 9 = true then (if (σ.1 w1 3) ≤ x3 then ((F_X1_fillNear σ ).bind fun q3 => L_X1_leastWatch_72 sw_fuel q3.2 x2 (-1) 0) else ((F_X8_copyOne σ 46 38 x3).bind fun q4 => (F_X2_goOn q4.2 46 x3 x1).bind fun q5 => if sw_inb x3 6 = true then (c4 q5.2 x1 (x2 ||| ((1 : Int32) <<< ((q5.2.1 47 x3.toNatClampNeg) &&& 31))) (x3 + 1)) else none)) else none)
theorem SC_X1_leastWatch_4 {E : sw_E} {d : Nat} (hd : 6 ≤ d) {p : Int32 × sw_St} {c4 : sw_St → Int32 → Int32 → Int32 → Option (Int32 × sw_St)} (h4 : ∀ (σ : sw_St) (x1 : Int32) (x2 : Int32) (x3 : Int32), c4 σ x1 x2 x3 = some p → sw_W E sw_gX m_X1_leastWatch d 4 [(0, .ref 54), (1, .int x1), (2, .int x2), (3, .int x3)] [] σ (sw_pI p)) {σ : sw_St} {x1 : Int32} {x2 : Int32} {x3 : Int32} (h : S_X1_leastWatch_4 c4 σ x1 x2 x3 = some p) : sw_W E sw_gX m_X1_leastWatch d 4 [(0, .ref 54), (1, .int x1), (2, .int x2), (3, .int x3)] [] σ (sw_pI p) := by
  unfold S_X1_leastWatch_4 at h
  obtain ⟨w1, ow1, h⟩ := sw_bnd h
  obtain ⟨o2, h⟩ := sw_ifs h
  refine B_X1_leastWatch_4 ow1 o2 (fun hc => ?_) (fun hc => ?_)
  · rw [if_pos hc] at h
    obtain ⟨q3, hq, h⟩ := sw_bnd h
    refine B_X1_leastWatch_63  (FC_X1_fillNear (Nat.le_refl _) hq) (Nat.lt_of_lt_of_le (by decide) hd) (fun s hvs => ?_)
    subst hvs
    refine B_X1_leastWatch_67  ?_
    exact LC_X1_leastWatch_72 hd _ _ _ _ _ h
  · rw [if_neg hc] at h
    obtain ⟨q4, hq, h⟩ := sw_bnd h
    refine B_X1_leastWatch_18  (FC_X8_copyOne (Nat.le_refl _) hq) (Nat.lt_of_lt_of_le (by decide) hd) (fun s hvs => ?_)
    subst hvs
    obtain ⟨q5, hq, h⟩ := sw_bnd h
    refine B_X1_leastWatch_30  (FC_X2_goOn (Nat.le_refl _) hq) (Nat.lt_of_lt_of_le (by decide) hd) (fun s hvs => ?_)
    subst hvs
    obtain ⟨o6, h⟩ := sw_ifs h
    refine B_X1_leastWatch_43 (sw_inb_sp o6) ?_
    exact h4 _ _ _ _ h
noncomputable def L_X1_leastWatch_4 : Nat → sw_St → Int32 → Int32 → Int32 → Option (Int32 × sw_St)
  | 0, _, _, _, _ => none
  | k + 1, σ, x1, x2, x3 => S_X1_leastWatch_4 (fun σ x1 x2 x3 => L_X1_leastWatch_4 k σ x1 x2 x3) σ x1 x2 x3
theorem LC_X1_leastWatch_4 {E : sw_E} {d : Nat} (hd : 6 ≤ d) {p : Int32 × sw_St} : ∀ (k : Nat) (σ : sw_St) (x1 : Int32) (x2 : Int32) (x3 : Int32), L_X1_leastWatch_4 k σ x1 x2 x3 = some p → sw_W E sw_gX m_X1_leastWatch d 4 [(0, .ref 54), (1, .int x1), (2, .int x2), (3, .int x3)] [] σ (sw_pI p) := by
  intro k
  induction k with
  | zero => intro σ x1 x2 x3 h; cases h
  | succ k ih => intro σ x1 x2 x3 h; exact SC_X1_leastWatch_4 hd ih h
noncomputable def F_X1_leastWatch (σ : sw_St) (x1 : Int32) : Option (Int32 × sw_St) :=
  L_X1_leastWatch_4 sw_fuel σ x1 0 0
theorem FC_X1_leastWatch {E : sw_E} {d : Nat} (hd : 6 ≤ d) {p : Int32 × sw_St} {σ : sw_St} {x1 : Int32} (h : F_X1_leastWatch σ x1 = some p) : sw_KI E sw_gX m_X1_leastWatch d [.ref 54, .int x1] σ (fun v s => v = p.1 ∧ s = p.2) := by
  unfold F_X1_leastWatch at h
  refine sw_K.of (by decide +kernel) rfl (Nat.le_of_ble_eq_true rfl) ?_
  show sw_W E sw_gX m_X1_leastWatch d 0 [(0, .ref 54), (1, .int x1)] [] σ (sw_pI p)
  refine B_X1_leastWatch_0  ?_
  exact LC_X1_leastWatch_4 hd _ _ _ _ _ h
/-! StrayWool$Foresight.fillCrimps(I)V -/
noncomputable def S_X1_fillCrimps_64 (c9 : sw_St → Int32 → Int32 → Int32 → Option (Unit × sw_St)) (c40 : sw_St → Int32 → Int32 → Int32 → Int32 → Option (Unit × sw_St)) (σ : sw_St) (x1 : Int32) (x2 : Int32) (x3 : Int32) (x4 : Int32) : Option (Unit × sw_St) :=
  if sw_inb x1 6 = true then (if sw_inb ((x3 * 31) + x4) 310 = true then (c40 (sw_uI σ 57 (((x3 * 31) + x4).toNatClampNeg) (σ.1 49 x1.toNatClampNeg)) x1 x2 x3 (x4 + 1)) else none) else none
theorem SC_X1_fillCrimps_64 {E : sw_E} {d : Nat} (hd : 6 ≤ d) {p : Unit × sw_St} {c9 : sw_St → Int32 → Int32 → Int32 → Option (Unit × sw_St)} {c40 : sw_St → Int32 → Int32 → Int32 → Int32 → Option (Unit × sw_St)} (h9 : ∀ (σ : sw_St) (x1 : Int32) (x2 : Int32) (x3 : Int32), c9 σ x1 x2 x3 = some p → sw_W E sw_gX m_X1_fillCrimps d 9 [(0, .ref 54), (1, .int x1), (2, .int x2), (3, .int x3)] [] σ (sw_pV p)) (h40 : ∀ (σ : sw_St) (x1 : Int32) (x2 : Int32) (x3 : Int32) (x4 : Int32), c40 σ x1 x2 x3 x4 = some p → sw_W E sw_gX m_X1_fillCrimps d 40 [(0, .ref 54), (1, .int x1), (2, .int x2), (3, .int x3), (4, .int x4)] [] σ (sw_pV p)) {σ : sw_St} {x1 : Int32} {x2 : Int32} {x3 : Int32} {x4 : Int32} (h : S_X1_fillCrimps_64 c9 c40 σ x1 x2 x3 x4 = some p) : sw_W E sw_gX m_X1_fillCrimps d 64 [(0, .ref 54), (1, .int x1), (2, .int x2), (3, .int x3), (4, .int x4)] [] σ (sw_pV p) := by
  unfold S_X1_fillCrimps_64 at h
  obtain ⟨o1, h⟩ := sw_ifs h
  obtain ⟨o2, h⟩ := sw_ifs h
  refine B_X1_fillCrimps_64 (sw_inb_sp o1) (sw_inb_sp o2) ?_
  exact h40 _ _ _ _ _ h
noncomputable def S_X1_fillCrimps_40 (c9 : sw_St → Int32 → Int32 → Int32 → Option (Unit × sw_St)) (c40 : sw_St → Int32 → Int32 → Int32 → Int32 → Option (Unit × sw_St)) (σ : sw_St) (x1 : Int32) (x2 : Int32) (x3 : Int32) (x4 : Int32) : Option (Unit × sw_St) :=
  if x2 < x4 then (c9 σ x1 x2 (x3 + 1)) else (if x4 ≤ 0 then (S_X1_fillCrimps_64 c9 c40 σ x1 x2 x3 x4) else ((F_X2_goOn σ 46 x1 1).bind fun q1 => S_X1_fillCrimps_64 c9 c40 q1.2 x1 x2 x3 x4))
theorem SC_X1_fillCrimps_40 {E : sw_E} {d : Nat} (hd : 6 ≤ d) {p : Unit × sw_St} {c9 : sw_St → Int32 → Int32 → Int32 → Option (Unit × sw_St)} {c40 : sw_St → Int32 → Int32 → Int32 → Int32 → Option (Unit × sw_St)} (h9 : ∀ (σ : sw_St) (x1 : Int32) (x2 : Int32) (x3 : Int32), c9 σ x1 x2 x3 = some p → sw_W E sw_gX m_X1_fillCrimps d 9 [(0, .ref 54), (1, .int x1), (2, .int x2), (3, .int x3)] [] σ (sw_pV p)) (h40 : ∀ (σ : sw_St) (x1 : Int32) (x2 : Int32) (x3 : Int32) (x4 : Int32), c40 σ x1 x2 x3 x4 = some p → sw_W E sw_gX m_X1_fillCrimps d 40 [(0, .ref 54), (1, .int x1), (2, .int x2), (3, .int x3), (4, .int x4)] [] σ (sw_pV p)) {σ : sw_St} {x1 : Int32} {x2 : Int32} {x3 : Int32} {x4 : Int32} (h : S_X1_fillCrimps_40 c9 c40 σ x1 x2 x3 x4 = some p) : sw_W E sw_gX m_X1_fillCrimps d 40 [(0, .ref 54), (1, .int x1), (2, .int x2), (3, .int x3), (4, .int x4)] [] σ (sw_pV p) := by
  unfold S_X1_fillCrimps_40 at h
  refine B_X1_fillCrimps_40  (fun hc => ?_) (fun hc => ?_)
  · rw [if_pos hc] at h
    refine B_X1_fillCrimps_91  ?_
    exact h9 _ _ _ _ h
  · rw [if_neg hc] at h
    refine B_X1_fillCrimps_46  (fun hc => ?_) (fun hc => ?_)
    · rw [if_pos hc] at h
      exact SC_X1_fillCrimps_64 hd h9 h40 h
    · rw [if_neg hc] at h
      obtain ⟨q1, hq, h⟩ := sw_bnd h
      refine B_X1_fillCrimps_51  (FC_X2_goOn (Nat.le_refl _) hq) (Nat.lt_of_lt_of_le (by decide) hd) (fun s hvs => ?_)
      subst hvs
      exact SC_X1_fillCrimps_64 hd h9 h40 h
noncomputable def L_X1_fillCrimps_40 (c9 : sw_St → Int32 → Int32 → Int32 → Option (Unit × sw_St)) : Nat → sw_St → Int32 → Int32 → Int32 → Int32 → Option (Unit × sw_St)
  | 0, _, _, _, _, _ => none
  | k + 1, σ, x1, x2, x3, x4 => S_X1_fillCrimps_40 c9 (fun σ x1 x2 x3 x4 => L_X1_fillCrimps_40 c9 k σ x1 x2 x3 x4) σ x1 x2 x3 x4
theorem LC_X1_fillCrimps_40 {E : sw_E} {d : Nat} (hd : 6 ≤ d) {p : Unit × sw_St} {c9 : sw_St → Int32 → Int32 → Int32 → Option (Unit × sw_St)} (h9 : ∀ (σ : sw_St) (x1 : Int32) (x2 : Int32) (x3 : Int32), c9 σ x1 x2 x3 = some p → sw_W E sw_gX m_X1_fillCrimps d 9 [(0, .ref 54), (1, .int x1), (2, .int x2), (3, .int x3)] [] σ (sw_pV p)) : ∀ (k : Nat) (σ : sw_St) (x1 : Int32) (x2 : Int32) (x3 : Int32) (x4 : Int32), L_X1_fillCrimps_40 c9 k σ x1 x2 x3 x4 = some p → sw_W E sw_gX m_X1_fillCrimps d 40 [(0, .ref 54), (1, .int x1), (2, .int x2), (3, .int x3), (4, .int x4)] [] σ (sw_pV p) := by
  intro k
  induction k with
  | zero => intro σ x1 x2 x3 x4 h; cases h
  | succ k ih => intro σ x1 x2 x3 x4 h; exact SC_X1_fillCrimps_40 hd h9 ih h
noncomputable def S_X1_fillCrimps_9 (c9 : sw_St → Int32 → Int32 → Int32 → Option (Unit × sw_St)) (σ : sw_St) (x1 : Int32) (x2 : Int32) (x3 : Int32) : Option (Unit × sw_St) :=
  if 10 ≤ x3 then (some ((), σ)) else ((F_X8_copyOne σ 46 38 x1).bind fun q1 => if sw_inb x1 6 = true then (L_X1_fillCrimps_40 c9 sw_fuel (sw_uI q1.2 51 x1.toNatClampNeg x3) x1 x2 x3 0) else none)
theorem SC_X1_fillCrimps_9 {E : sw_E} {d : Nat} (hd : 6 ≤ d) {p : Unit × sw_St} {c9 : sw_St → Int32 → Int32 → Int32 → Option (Unit × sw_St)} (h9 : ∀ (σ : sw_St) (x1 : Int32) (x2 : Int32) (x3 : Int32), c9 σ x1 x2 x3 = some p → sw_W E sw_gX m_X1_fillCrimps d 9 [(0, .ref 54), (1, .int x1), (2, .int x2), (3, .int x3)] [] σ (sw_pV p)) {σ : sw_St} {x1 : Int32} {x2 : Int32} {x3 : Int32} (h : S_X1_fillCrimps_9 c9 σ x1 x2 x3 = some p) : sw_W E sw_gX m_X1_fillCrimps d 9 [(0, .ref 54), (1, .int x1), (2, .int x2), (3, .int x3)] [] σ (sw_pV p) := by
  unfold S_X1_fillCrimps_9 at h
  refine B_X1_fillCrimps_9  (fun hc => ?_) (fun hc => ?_)
  · rw [if_pos hc] at h
    cases h
    exact B_X1_fillCrimps_97  ⟨rfl, rfl⟩
  · rw [if_neg hc] at h
    obtain ⟨q1, hq, h⟩ := sw_bnd h
    refine B_X1_fillCrimps_15  (FC_X8_copyOne (Nat.le_refl _) hq) (Nat.lt_of_lt_of_le (by decide) hd) (fun s hvs => ?_)
    subst hvs
    obtain ⟨o2, h⟩ := sw_ifs h
    refine B_X1_fillCrimps_27 (sw_inb_sp o2) ?_
    exact LC_X1_fillCrimps_40 hd h9 _ _ _ _ _ _ h
noncomputable def L_X1_fillCrimps_9 : Nat → sw_St → Int32 → Int32 → Int32 → Option (Unit × sw_St)
  | 0, _, _, _, _ => none
  | k + 1, σ, x1, x2, x3 => S_X1_fillCrimps_9 (fun σ x1 x2 x3 => L_X1_fillCrimps_9 k σ x1 x2 x3) σ x1 x2 x3
theorem LC_X1_fillCrimps_9 {E : sw_E} {d : Nat} (hd : 6 ≤ d) {p : Unit × sw_St} : ∀ (k : Nat) (σ : sw_St) (x1 : Int32) (x2 : Int32) (x3 : Int32), L_X1_fillCrimps_9 k σ x1 x2 x3 = some p → sw_W E sw_gX m_X1_fillCrimps d 9 [(0, .ref 54), (1, .int x1), (2, .int x2), (3, .int x3)] [] σ (sw_pV p) := by
  intro k
  induction k with
  | zero => intro σ x1 x2 x3 h; cases h
  | succ k ih => intro σ x1 x2 x3 h; exact SC_X1_fillCrimps_9 hd ih h
noncomputable def F_X1_fillCrimps (σ : sw_St) (x1 : Int32) : Option (Unit × sw_St) :=
  (F_X1_daysAtMost σ 30).bind fun q1 => L_X1_fillCrimps_9 sw_fuel q1.2 x1 q1.1 0
theorem FC_X1_fillCrimps {E : sw_E} {d : Nat} (hd : 6 ≤ d) {p : Unit × sw_St} {σ : sw_St} {x1 : Int32} (h : F_X1_fillCrimps σ x1 = some p) : sw_KV E sw_gX m_X1_fillCrimps d [.ref 54, .int x1] σ (fun s => s = p.2) := by
  unfold F_X1_fillCrimps at h
  refine sw_K.of (by decide +kernel) rfl (Nat.le_of_ble_eq_true rfl) ?_
  show sw_W E sw_gX m_X1_fillCrimps d 0 [(0, .ref 54), (1, .int x1)] [] σ (sw_pV p)
  obtain ⟨q1, hq, h⟩ := sw_bnd h
  refine B_X1_fillCrimps_0  (FC_X1_daysAtMost (Nat.le_refl _) hq) (Nat.lt_of_lt_of_le (by decide) hd) (fun v s hvs => ?_)
  obtain ⟨hv1, hv2⟩ := hvs; subst hv1; subst hv2
  refine B_X1_fillCrimps_6  ?_
  exact LC_X1_fillCrimps_9 hd _ _ _ _ _ h
/-! StrayWool$Foresight.curiousBits(I)I -/
noncomputable def S_X1_curiousBits_130 (c6 : sw_St → Int32 → Int32 → Int32 → Option (Int32 × sw_St)) (σ : sw_St) (x1 : Int32) (x2 : Int32) (x3 : Int32) : Option (Int32 × sw_St) :=
  c6 σ x1 x2 (x3 + 1)
theorem SC_X1_curiousBits_130 {E : sw_E} {d : Nat} (hd : 6 ≤ d) {p : Int32 × sw_St} {c6 : sw_St → Int32 → Int32 → Int32 → Option (Int32 × sw_St)} (h6 : ∀ (σ : sw_St) (x1 : Int32) (x2 : Int32) (x3 : Int32), c6 σ x1 x2 x3 = some p → sw_W E sw_gX m_X1_curiousBits d 6 [(0, .ref 54), (1, .int x1), (2, .int x2), (3, .int x3)] [] σ (sw_pI p)) {σ : sw_St} {x1 : Int32} {x2 : Int32} {x3 : Int32} (h : S_X1_curiousBits_130 c6 σ x1 x2 x3 = some p) : sw_W E sw_gX m_X1_curiousBits d 130 [(0, .ref 54), (1, .int x1), (2, .int x2), (3, .int x3)] [] σ (sw_pI p) := by
  unfold S_X1_curiousBits_130 at h
  refine B_X1_curiousBits_130  ?_
  exact h6 _ _ _ _ h
noncomputable def S_X1_curiousBits_129 (c6 : sw_St → Int32 → Int32 → Int32 → Option (Int32 × sw_St)) (σ : sw_St) (x1 : Int32) (x3 : Int32) (sx0 : Int32) : Option (Int32 × sw_St) :=
  S_X1_curiousBits_130 c6 σ x1 sx0 x3
theorem SC_X1_curiousBits_129 {E : sw_E} {d : Nat} (hd : 6 ≤ d) {p : Int32 × sw_St} {c6 : sw_St → Int32 → Int32 → Int32 → Option (Int32 × sw_St)} (h6 : ∀ (σ : sw_St) (x1 : Int32) (x2 : Int32) (x3 : Int32), c6 σ x1 x2 x3 = some p → sw_W E sw_gX m_X1_curiousBits d 6 [(0, .ref 54), (1, .int x1), (2, .int x2), (3, .int x3)] [] σ (sw_pI p)) {σ : sw_St} {x1 : Int32} {x3 : Int32} {sx0 : Int32} (h : S_X1_curiousBits_129 c6 σ x1 x3 sx0 = some p) : sw_W E sw_gX m_X1_curiousBits d 129 [(0, .ref 54), (1, .int x1), (3, .int x3)] [.int sx0] σ (sw_pI p) := by
  unfold S_X1_curiousBits_129 at h
  refine B_X1_curiousBits_129  ?_
  exact SC_X1_curiousBits_130 hd h6 h
noncomputable def S_X1_curiousBits_6 (c6 : sw_St → Int32 → Int32 → Int32 → Option (Int32 × sw_St)) (σ : sw_St) (x1 : Int32) (x2 : Int32) (x3 : Int32) : Option (Int32 × sw_St) :=
  if (σ.1 54 4) ≤ x3 then (some (x2, σ)) else (if sw_inb (x3 * 3) 48 = true then (if sw_inb ((x3 * 3) + 1) 48 = true then (if sw_inb ((x3 * 3) + 2) 48 = true then ((F_X1_daysAtMost σ 30).bind fun q4 => if (σ.1 55 ((x3 * 3).toNatClampNeg)) ≤ q4.1 then (if (σ.1 55 (((x3 * 3) + 1).toNatClampNeg)) = x1 then ((F_X1_curiousBy q4.2 (σ.1 55 ((x3 * 3).toNatClampNeg)) (σ.1 55 (((x3 * 3) + 2).toNatClampNeg))).bind fun q8 => S_X1_curiousBits_130 c6 q8.2 x1 (x2 &&& q8.1) x3) else ((F_X8_copyOne q4.2 46 38 (σ.1 55 (((x3 * 3) + 1).toNatClampNeg))).bind fun q5 => (F_X2_goOn q5.2 46 (σ.1 55 (((x3 * 3) + 1).toNatClampNeg)) (σ.1 55 ((x3 * 3).toNatClampNeg))).bind fun q6 => if sw_inb (σ.1 55 (((x3 * 3) + 1).toNatClampNeg)) 6 = true then (if (q6.2.1 49 (σ.1 55 (((x3 * 3) + 1).toNatClampNeg)).toNatClampNeg) = (σ.1 55 (((x3 * 3) + 2).toNatClampNeg)) then (S_X1_curiousBits_129 c6 q6.2 x1 x3 x2) else (S_X1_curiousBits_129 c6 q6.2 x1 x3 0)) else none)) else (some (0, q4.2))) else none) else none) else none)
theorem SC_X1_curiousBits_6 {E : sw_E} {d : Nat} (hd : 6 ≤ d) {p : Int32 × sw_St} {c6 : sw_St → Int32 → Int32 → Int32 → Option (Int32 × sw_St)} (h6 : ∀ (σ : sw_St) (x1 : Int32) (x2 : Int32) (x3 : Int32), c6 σ x1 x2 x3 = some p → sw_W E sw_gX m_X1_curiousBits d 6 [(0, .ref 54), (1, .int x1), (2, .int x2), (3, .int x3)] [] σ (sw_pI p)) {σ : sw_St} {x1 : Int32} {x2 : Int32} {x3 : Int32} (h : S_X1_curiousBits_6 c6 σ x1 x2 x3 = some p) : sw_W E sw_gX m_X1_curiousBits d 6 [(0, .ref 54), (1, .int x1), (2, .int x2), (3, .int x3)] [] σ (sw_pI p) := by
  unfold S_X1_curiousBits_6 at h
  refine B_X1_curiousBits_6  (fun hc => ?_) (fun hc => ?_)
  · rw [if_pos hc] at h
    cases h
    exact B_X1_curiousBits_136  ⟨_, rfl, rfl, rfl⟩
  · rw [if_neg hc] at h
    obtain ⟨o1, h⟩ := sw_ifs h
    obtain ⟨o2, h⟩ := sw_ifs h
    obtain ⟨o3, h⟩ := sw_ifs h
    obtain ⟨q4, hq, h⟩ := sw_bnd h
    refine B_X1_curiousBits_14 (sw_inb_sp o1) (sw_inb_sp o2) (sw_inb_sp o3) (FC_X1_daysAtMost (Nat.le_refl _) hq) (Nat.lt_of_lt_of_le (by decide) hd) (fun v s hvs => ?_)
    obtain ⟨hv1, hv2⟩ := hvs; subst hv1; subst hv2
    refine B_X1_curiousBits_56  (fun hc => ?_) (fun hc => ?_)
    · rw [if_pos hc] at h
      refine B_X1_curiousBits_61  (fun hc => ?_) (fun hc => ?_)
      · rw [if_neg hc] at h
        obtain ⟨q5, hq, h⟩ := sw_bnd h
        refine B_X1_curiousBits_81  (FC_X8_copyOne (Nat.le_refl _) hq) (Nat.lt_of_lt_of_le (by decide) hd) (fun s hvs => ?_)
        subst hvs
        obtain ⟨q6, hq, h⟩ := sw_bnd h
        refine B_X1_curiousBits_94  (FC_X2_goOn (Nat.le_refl _) hq) (Nat.lt_of_lt_of_le (by decide) hd) (fun s hvs => ?_)
        subst hvs
        obtain ⟨o7, h⟩ := sw_ifs h
        refine B_X1_curiousBits_109 (sw_inb_sp o7) (fun hc => ?_) (fun hc => ?_)
        · rw [if_neg hc] at h
          refine B_X1_curiousBits_128  ?_
          exact SC_X1_curiousBits_129 hd h6 h
        · rw [if_pos hc] at h
          refine B_X1_curiousBits_124  ?_
          exact SC_X1_curiousBits_129 hd h6 h
      · rw [if_pos hc] at h
        obtain ⟨q8, hq, h⟩ := sw_bnd h
        refine B_X1_curiousBits_67  (FC_X1_curiousBy (Nat.le_refl _) hq) (Nat.lt_of_lt_of_le (by decide) hd) (fun v s hvs => ?_)
        obtain ⟨hv1, hv2⟩ := hvs; subst hv1; subst hv2
        refine B_X1_curiousBits_76  ?_
        exact SC_X1_curiousBits_130 hd h6 h
    · rw [if_neg hc] at h
      cases h
      exact B_X1_curiousBits_59  ⟨_, rfl, rfl, rfl⟩
noncomputable def L_X1_curiousBits_6 : Nat → sw_St → Int32 → Int32 → Int32 → Option (Int32 × sw_St)
  | 0, _, _, _, _ => none
  | k + 1, σ, x1, x2, x3 => S_X1_curiousBits_6 (fun σ x1 x2 x3 => L_X1_curiousBits_6 k σ x1 x2 x3) σ x1 x2 x3
theorem LC_X1_curiousBits_6 {E : sw_E} {d : Nat} (hd : 6 ≤ d) {p : Int32 × sw_St} : ∀ (k : Nat) (σ : sw_St) (x1 : Int32) (x2 : Int32) (x3 : Int32), L_X1_curiousBits_6 k σ x1 x2 x3 = some p → sw_W E sw_gX m_X1_curiousBits d 6 [(0, .ref 54), (1, .int x1), (2, .int x2), (3, .int x3)] [] σ (sw_pI p) := by
  intro k
  induction k with
  | zero => intro σ x1 x2 x3 h; cases h
  | succ k ih => intro σ x1 x2 x3 h; exact SC_X1_curiousBits_6 hd ih h
noncomputable def F_X1_curiousBits (σ : sw_St) (x1 : Int32) : Option (Int32 × sw_St) :=
  L_X1_curiousBits_6 sw_fuel σ x1 1023 0
theorem FC_X1_curiousBits {E : sw_E} {d : Nat} (hd : 6 ≤ d) {p : Int32 × sw_St} {σ : sw_St} {x1 : Int32} (h : F_X1_curiousBits σ x1 = some p) : sw_KI E sw_gX m_X1_curiousBits d [.ref 54, .int x1] σ (fun v s => v = p.1 ∧ s = p.2) := by
  unfold F_X1_curiousBits at h
  refine sw_K.of (by decide +kernel) rfl (Nat.le_of_ble_eq_true rfl) ?_
  show sw_W E sw_gX m_X1_curiousBits d 0 [(0, .ref 54), (1, .int x1)] [] σ (sw_pI p)
  refine B_X1_curiousBits_0  ?_
  exact LC_X1_curiousBits_6 hd _ _ _ _ _ h
/-! StrayWool$Hill.choice(LStrayWool$State;I)I -/
noncomputable def F_X2_choice (σ : sw_St) (o1 : Nat) (x2 : Int32) : Option (Int32 × sw_St) :=
  if sw_isO sw_gX o1 8 = true then ((F_X2_luring σ o1 x2 (σ.1 o1 2) 37 0).bind fun q2 => (F_X2_mostLuring q2.2 q2.1 37 0).bind fun q3 => some (q3.1, q3.2)) else none
theorem FC_X2_choice {E : sw_E} {d : Nat} (hd : 5 ≤ d) {p : Int32 × sw_St} {σ : sw_St} {o1 : Nat} {x2 : Int32} (h : F_X2_choice σ o1 x2 = some p) : sw_KI E sw_gX m_X2_choice d [.ref 33, .ref o1, .int x2] σ (fun v s => v = p.1 ∧ s = p.2) := by
  unfold F_X2_choice at h
  refine sw_K.of (by decide +kernel) rfl (Nat.le_of_ble_eq_true rfl) ?_
  show sw_W E sw_gX m_X2_choice d 0 [(0, .ref 33), (1, .ref o1), (2, .int x2)] [] σ (sw_pI p)
  obtain ⟨o1, h⟩ := sw_ifs h
  obtain ⟨q2, hq, h⟩ := sw_bnd h
  refine B_X2_choice_0 o1 (FC_X2_luring (Nat.le_refl _) hq) (Nat.lt_of_lt_of_le (by decide) hd) (fun v s hvs => ?_)
  obtain ⟨hv1, hv2⟩ := hvs; subst hv1; subst hv2
  obtain ⟨q3, hq, h⟩ := sw_bnd h
  refine B_X2_choice_16  (FC_X2_mostLuring (Nat.le_refl _) hq) (Nat.lt_of_lt_of_le (by decide) hd) (fun v s hvs => ?_)
  obtain ⟨hv1, hv2⟩ := hvs; subst hv1; subst hv2
  cases h
  exact B_X2_choice_24  ⟨_, rfl, rfl, rfl⟩
/-! StrayWool$Hill.passDay(LStrayWool$State;)I -/
noncomputable def S_X2_passDay_47 (c4 : sw_St → Nat → Int32 → Int32 → Option (Int32 × sw_St)) (σ : sw_St) (o1 : Nat) (x2 : Int32) (x3 : Int32) : Option (Int32 × sw_St) :=
  c4 σ o1 x2 (x3 + 1)
theorem SC_X2_passDay_47 {E : sw_E} {d : Nat} (hd : 6 ≤ d) {p : Int32 × sw_St} {c4 : sw_St → Nat → Int32 → Int32 → Option (Int32 × sw_St)} (h4 : ∀ (σ : sw_St) (o1 : Nat) (x2 : Int32) (x3 : Int32), c4 σ o1 x2 x3 = some p → sw_W E sw_gX m_X2_passDay d 4 [(0, .ref 33), (1, .ref o1), (2, .int x2), (3, .int x3)] [] σ (sw_pI p)) {σ : sw_St} {o1 : Nat} {x2 : Int32} {x3 : Int32} (h : S_X2_passDay_47 c4 σ o1 x2 x3 = some p) : sw_W E sw_gX m_X2_passDay d 47 [(0, .ref 33), (1, .ref o1), (2, .int x2), (3, .int x3)] [] σ (sw_pI p) := by
  unfold S_X2_passDay_47 at h
  refine B_X2_passDay_47  ?_
  exact h4 _ _ _ _ h
noncomputable def S_X2_passDay_4 (c4 : sw_St → Nat → Int32 → Int32 → Option (Int32 × sw_St)) (σ : sw_St) (o1 : Nat) (x2 : Int32) (x3 : Int32) : Option (Int32 × sw_St) :=
  (σ.2.2 33 0).bind fun w1 => (if sw_isO sw_gX w1 9 = true then (if (σ.1 w1 3) ≤ x3 then (if sw_isO sw_gX o1 8 = true then ((F_J9_min_7cf53 σ 999 ((σ.1 o1 0) + 1)).bind fun q4 => if sw_isO sw_gX o1 8 = true then (some (x2, (sw_uI q4.2 o1 0 q4.1))) else none) else none) else ((F_X2_choice σ o1 x3).bind fun q6 => if q6.1 = (-1) then (S_X2_passDay_47 c4 q6.2 o1 x2 x3) else ((F_X2_passThrough q6.2 o1 x3 q6.1).bind fun q7 => if sw_isO sw_gX o1 8 = true then ((F_X8_keep q7.2 o1 x3 q6.1).bind fun q8 => S_X2_passDay_47 c4 q8.2 o1 (x2 + 1) x3) else none))) else none)
theorem SC_X2_passDay_4 {E : sw_E} {d : Nat} (hd : 6 ≤ d) {p : Int32 × sw_St} {c4 : sw_St → Nat → Int32 → Int32 → Option (Int32 × sw_St)} (h4 : ∀ (σ : sw_St) (o1 : Nat) (x2 : Int32) (x3 : Int32), c4 σ o1 x2 x3 = some p → sw_W E sw_gX m_X2_passDay d 4 [(0, .ref 33), (1, .ref o1), (2, .int x2), (3, .int x3)] [] σ (sw_pI p)) {σ : sw_St} {o1 : Nat} {x2 : Int32} {x3 : Int32} (h : S_X2_passDay_4 c4 σ o1 x2 x3 = some p) : sw_W E sw_gX m_X2_passDay d 4 [(0, .ref 33), (1, .ref o1), (2, .int x2), (3, .int x3)] [] σ (sw_pI p) := by
  unfold S_X2_passDay_4 at h
  obtain ⟨w1, ow1, h⟩ := sw_bnd h
  obtain ⟨o2, h⟩ := sw_ifs h
  refine B_X2_passDay_4 ow1 o2 (fun hc => ?_) (fun hc => ?_)
  · rw [if_pos hc] at h
    obtain ⟨o3, h⟩ := sw_ifs h
    obtain ⟨q4, hq, h⟩ := sw_bnd h
    refine B_X2_passDay_53 o3 (FC_J9_min_7cf53 (Nat.le_refl _) hq) (Nat.lt_of_lt_of_le (by decide) hd) (fun v s hvs => ?_)
    obtain ⟨hv1, hv2⟩ := hvs; subst hv1; subst hv2
    obtain ⟨o5, h⟩ := sw_ifs h
    cases h
    exact B_X2_passDay_66 o5 ⟨_, rfl, rfl, rfl⟩
  · rw [if_neg hc] at h
    obtain ⟨q6, hq, h⟩ := sw_bnd h
    refine B_X2_passDay_15  (FC_X2_choice (Nat.le_refl _) hq) (Nat.lt_of_lt_of_le (by decide) hd) (fun v s hvs => ?_)
    obtain ⟨hv1, hv2⟩ := hvs; subst hv1; subst hv2
    refine B_X2_passDay_21  (fun hc => ?_) (fun hc => ?_)
    · rw [if_pos hc] at h
      exact SC_X2_passDay_47 hd h4 h
    · rw [if_neg hc] at h
      obtain ⟨q7, hq, h⟩ := sw_bnd h
      refine B_X2_passDay_29  (FC_X2_passThrough (Nat.le_refl _) hq) (Nat.lt_of_lt_of_le (by decide) hd) (fun s hvs => ?_)
      subst hvs
      obtain ⟨o9, h⟩ := sw_ifs h
      obtain ⟨q8, hq, h⟩ := sw_bnd h
      refine B_X2_passDay_37  (FC_X8_keep (Nat.le_refl _) hq) (Nat.lt_of_lt_of_le (by decide) hd) (fun s hvs => ?_) o9
      subst hvs
      refine B_X2_passDay_44  ?_
      exact SC_X2_passDay_47 hd h4 h
noncomputable def L_X2_passDay_4 : Nat → sw_St → Nat → Int32 → Int32 → Option (Int32 × sw_St)
  | 0, _, _, _, _ => none
  | k + 1, σ, o1, x2, x3 => S_X2_passDay_4 (fun σ o1 x2 x3 => L_X2_passDay_4 k σ o1 x2 x3) σ o1 x2 x3
theorem LC_X2_passDay_4 {E : sw_E} {d : Nat} (hd : 6 ≤ d) {p : Int32 × sw_St} : ∀ (k : Nat) (σ : sw_St) (o1 : Nat) (x2 : Int32) (x3 : Int32), L_X2_passDay_4 k σ o1 x2 x3 = some p → sw_W E sw_gX m_X2_passDay d 4 [(0, .ref 33), (1, .ref o1), (2, .int x2), (3, .int x3)] [] σ (sw_pI p) := by
  intro k
  induction k with
  | zero => intro σ o1 x2 x3 h; cases h
  | succ k ih => intro σ o1 x2 x3 h; exact SC_X2_passDay_4 hd ih h
noncomputable def F_X2_passDay (σ : sw_St) (o1 : Nat) : Option (Int32 × sw_St) :=
  L_X2_passDay_4 sw_fuel σ o1 0 0
theorem FC_X2_passDay {E : sw_E} {d : Nat} (hd : 6 ≤ d) {p : Int32 × sw_St} {σ : sw_St} {o1 : Nat} (h : F_X2_passDay σ o1 = some p) : sw_KI E sw_gX m_X2_passDay d [.ref 33, .ref o1] σ (fun v s => v = p.1 ∧ s = p.2) := by
  unfold F_X2_passDay at h
  refine sw_K.of (by decide +kernel) rfl (Nat.le_of_ble_eq_true rfl) ?_
  show sw_W E sw_gX m_X2_passDay d 0 [(0, .ref 33), (1, .ref o1)] [] σ (sw_pI p)
  refine B_X2_passDay_0  ?_
  exact LC_X2_passDay_4 hd _ _ _ _ _ h
/-! StrayWool.strays(I)I -/
noncomputable def S_X10_strays_24 (σ : sw_St) (sx0 : Int32) : Option (Int32 × sw_St) :=
  some (sx0, σ)
theorem SC_X10_strays_24 {E : sw_E} {d : Nat} (hd : 6 ≤ d) {p : Int32 × sw_St} {σ : sw_St} {sx0 : Int32} (h : S_X10_strays_24 σ sx0 = some p) : sw_W E sw_gX m_X10_strays d 24 [] [.int sx0] σ (sw_pI p) := by
  unfold S_X10_strays_24 at h
  cases h
  exact B_X10_strays_24  ⟨_, rfl, rfl, rfl⟩
noncomputable def F_X10_strays (σ : sw_St) (x1 : Int32) : Option (Int32 × sw_St) :=
  (F_X10_isSheep σ x1).bind fun q1 => if q1.1 = 0 then (S_X10_strays_24 q1.2 (-1)) else ((F_X2_choice q1.2 38 x1).bind fun q2 => S_X10_strays_24 q2.2 q2.1)
theorem FC_X10_strays {E : sw_E} {d : Nat} (hd : 6 ≤ d) {p : Int32 × sw_St} {σ : sw_St} {x1 : Int32} (h : F_X10_strays σ x1 = some p) : sw_KI E sw_gX m_X10_strays d [.ref 0, .int x1] σ (fun v s => v = p.1 ∧ s = p.2) := by
  unfold F_X10_strays at h
  refine sw_K.of (by decide +kernel) rfl (Nat.le_of_ble_eq_true rfl) ?_
  show sw_W E sw_gX m_X10_strays d 0 [(0, .ref 0), (1, .int x1)] [] σ (sw_pI p)
  obtain ⟨q1, hq, h⟩ := sw_bnd h
  refine B_X10_strays_0  (FC_X10_isSheep (Nat.le_refl _) hq) (Nat.lt_of_lt_of_le (by decide) hd) (fun v s hvs => ?_)
  obtain ⟨hv1, hv2⟩ := hvs; subst hv1; subst hv2
  refine B_X10_strays_5  (fun hc => ?_) (fun hc => ?_)
  · rw [if_pos hc] at h
    refine B_X10_strays_23  ?_
    exact SC_X10_strays_24 hd h
  · rw [if_neg hc] at h
    obtain ⟨q2, hq, h⟩ := sw_bnd h
    refine B_X10_strays_8  (FC_X2_choice (Nat.le_refl _) hq) (Nat.lt_of_lt_of_le (by decide) hd) (fun v s hvs => ?_)
    obtain ⟨hv1, hv2⟩ := hvs; subst hv1; subst hv2
    refine B_X10_strays_20  ?_
    exact SC_X10_strays_24 hd h
/-! StrayWool.later(III)I -/
noncomputable def S_X10_later_27 (σ : sw_St) : Option (Int32 × sw_St) :=
  some ((-1), σ)
theorem SC_X10_later_27 {E : sw_E} {d : Nat} (hd : 7 ≤ d) {p : Int32 × sw_St} {σ : sw_St} (h : S_X10_later_27 σ  = some p) : sw_W E sw_gX m_X10_later d 27 [] [] σ (sw_pI p) := by
  unfold S_X10_later_27 at h
  cases h
  exact B_X10_later_27  ⟨_, rfl, rfl, rfl⟩
noncomputable def F_X10_later (σ : sw_St) (x1 : Int32) (x2 : Int32) (x3 : Int32) : Option (Int32 × sw_St) :=
  (F_X10_isSheep σ x1).bind fun q1 => if q1.1 = 0 then (S_X10_later_27 q1.2 ) else ((F_X10_canCome q1.2 x2 60).bind fun q2 => if q2.1 = 0 then (S_X10_later_27 q2.2 ) else (if x3 < 0 then (S_X10_later_27 q2.2 ) else (if x3 ≤ 2 then ((F_X1_look q2.2 x1 x2).bind fun q3 => if x3 = 0 then (if sw_inb x1 6 = true then (some (q3.2.1 47 x1.toNatClampNeg, q3.2)) else none) else if x3 = 1 then (if sw_inb x1 6 = true then (some (q3.2.1 48 x1.toNatClampNeg, q3.2)) else none) else (if sw_inb x1 6 = true then (some (q3.2.1 49 x1.toNatClampNeg, q3.2)) else none)) else (S_X10_later_27 q2.2 ))))
theorem FC_X10_later {E : sw_E} {d : Nat} (hd : 7 ≤ d) {p : Int32 × sw_St} {σ : sw_St} {x1 : Int32} {x2 : Int32} {x3 : Int32} (h : F_X10_later σ x1 x2 x3 = some p) : sw_KI E sw_gX m_X10_later d [.ref 0, .int x1, .int x2, .int x3] σ (fun v s => v = p.1 ∧ s = p.2) := by
  unfold F_X10_later at h
  refine sw_K.of (by decide +kernel) rfl (Nat.le_of_ble_eq_true rfl) ?_
  show sw_W E sw_gX m_X10_later d 0 [(0, .ref 0), (1, .int x1), (2, .int x2), (3, .int x3)] [] σ (sw_pI p)
  obtain ⟨q1, hq, h⟩ := sw_bnd h
  refine B_X10_later_0  (FC_X10_isSheep (Nat.le_refl _) hq) (Nat.lt_of_lt_of_le (by decide) hd) (fun v s hvs => ?_)
  obtain ⟨hv1, hv2⟩ := hvs; subst hv1; subst hv2
  refine B_X10_later_5  (fun hc => ?_) (fun hc => ?_)
  · rw [if_pos hc] at h
    exact SC_X10_later_27 hd h
  · rw [if_neg hc] at h
    obtain ⟨q2, hq, h⟩ := sw_bnd h
    refine B_X10_later_8  (FC_X10_canCome (Nat.le_refl _) hq) (Nat.lt_of_lt_of_le (by decide) hd) (fun v s hvs => ?_)
    obtain ⟨hv1, hv2⟩ := hvs; subst hv1; subst hv2
    refine B_X10_later_15  (fun hc => ?_) (fun hc => ?_)
    · rw [if_pos hc] at h
      exact SC_X10_later_27 hd h
    · rw [if_neg hc] at h
      refine B_X10_later_18  (fun hc => ?_) (fun hc => ?_)
      · rw [if_pos hc] at h
        exact SC_X10_later_27 hd h
      · rw [if_neg hc] at h
        refine B_X10_later_22  (fun hc => ?_) (fun hc => ?_)
        · rw [if_pos hc] at h
          obtain ⟨q3, hq, h⟩ := sw_bnd h
          refine B_X10_later_29  (FC_X1_look (Nat.le_refl _) hq) (Nat.lt_of_lt_of_le (by decide) hd) (fun s hvs => ?_)
          subst hvs
          refine B_X10_later_38  (fun hc => ?_) (fun hc => ?_) (fun n0 n1 => ?_)
          · rw [if_pos hc] at h
            obtain ⟨o4, h⟩ := sw_ifs h
            cases h
            exact B_X10_later_64 (sw_inb_sp o4) ⟨_, rfl, rfl, rfl⟩
          · rw [if_neg (fun z => absurd (hc.symm.trans z) (by decide)), if_pos hc] at h
            obtain ⟨o5, h⟩ := sw_ifs h
            cases h
            exact B_X10_later_74 (sw_inb_sp o5) ⟨_, rfl, rfl, rfl⟩
          · rw [if_neg n0, if_neg n1] at h
            obtain ⟨o6, h⟩ := sw_ifs h
            cases h
            exact B_X10_later_84 (sw_inb_sp o6) ⟨_, rfl, rfl, rfl⟩
        · rw [if_neg hc] at h
          exact SC_X10_later_27 hd h
/-! StrayWool.home(I)I -/
noncomputable def S_X10_home_20 (σ : sw_St) (sx0 : Int32) : Option (Int32 × sw_St) :=
  some (sx0, σ)
theorem SC_X10_home_20 {E : sw_E} {d : Nat} (hd : 7 ≤ d) {p : Int32 × sw_St} {σ : sw_St} {sx0 : Int32} (h : S_X10_home_20 σ sx0 = some p) : sw_W E sw_gX m_X10_home d 20 [] [.int sx0] σ (sw_pI p) := by
  unfold S_X10_home_20 at h
  cases h
  exact B_X10_home_20  ⟨_, rfl, rfl, rfl⟩
noncomputable def F_X10_home (σ : sw_St) (x1 : Int32) : Option (Int32 × sw_St) :=
  (F_X10_isSheep σ x1).bind fun q1 => if q1.1 = 0 then (S_X10_home_20 q1.2 (-1)) else ((F_X1_daysToHome q1.2 x1).bind fun q2 => S_X10_home_20 q2.2 q2.1)
theorem FC_X10_home {E : sw_E} {d : Nat} (hd : 7 ≤ d) {p : Int32 × sw_St} {σ : sw_St} {x1 : Int32} (h : F_X10_home σ x1 = some p) : sw_KI E sw_gX m_X10_home d [.ref 0, .int x1] σ (fun v s => v = p.1 ∧ s = p.2) := by
  unfold F_X10_home at h
  refine sw_K.of (by decide +kernel) rfl (Nat.le_of_ble_eq_true rfl) ?_
  show sw_W E sw_gX m_X10_home d 0 [(0, .ref 0), (1, .int x1)] [] σ (sw_pI p)
  obtain ⟨q1, hq, h⟩ := sw_bnd h
  refine B_X10_home_0  (FC_X10_isSheep (Nat.le_refl _) hq) (Nat.lt_of_lt_of_le (by decide) hd) (fun v s hvs => ?_)
  obtain ⟨hv1, hv2⟩ := hvs; subst hv1; subst hv2
  refine B_X10_home_5  (fun hc => ?_) (fun hc => ?_)
  · rw [if_pos hc] at h
    refine B_X10_home_19  ?_
    exact SC_X10_home_20 hd h
  · rw [if_neg hc] at h
    obtain ⟨q2, hq, h⟩ := sw_bnd h
    refine B_X10_home_8  (FC_X1_daysToHome (Nat.le_refl _) hq) (Nat.lt_of_lt_of_le (by decide) hd) (fun v s hvs => ?_)
    obtain ⟨hv1, hv2⟩ := hvs; subst hv1; subst hv2
    refine B_X10_home_16  ?_
    exact SC_X10_home_20 hd h
/-! StrayWool.rumour(II)I -/
noncomputable def S_X10_rumour_24 (σ : sw_St) : Option (Int32 × sw_St) :=
  some ((-1), σ)
theorem SC_X10_rumour_24 {E : sw_E} {d : Nat} (hd : 7 ≤ d) {p : Int32 × sw_St} {σ : sw_St} (h : S_X10_rumour_24 σ  = some p) : sw_W E sw_gX m_X10_rumour d 24 [] [] σ (sw_pI p) := by
  unfold S_X10_rumour_24 at h
  cases h
  exact B_X10_rumour_24  ⟨_, rfl, rfl, rfl⟩
noncomputable def F_X10_rumour (σ : sw_St) (x1 : Int32) (x2 : Int32) : Option (Int32 × sw_St) :=
  if x1 < 1 then (S_X10_rumour_24 σ ) else ((F_X10_canCome σ x1 40).bind fun q1 => if q1.1 = 0 then (S_X10_rumour_24 q1.2 ) else (if x2 < 0 then (S_X10_rumour_24 q1.2 ) else (if x2 ≤ 1 then ((F_X1_bestRumour q1.2 x1 x2).bind fun q2 => some (q2.1, q2.2)) else (S_X10_rumour_24 q1.2 ))))
theorem FC_X10_rumour {E : sw_E} {d : Nat} (hd : 7 ≤ d) {p : Int32 × sw_St} {σ : sw_St} {x1 : Int32} {x2 : Int32} (h : F_X10_rumour σ x1 x2 = some p) : sw_KI E sw_gX m_X10_rumour d [.ref 0, .int x1, .int x2] σ (fun v s => v = p.1 ∧ s = p.2) := by
  unfold F_X10_rumour at h
  refine sw_K.of (by decide +kernel) rfl (Nat.le_of_ble_eq_true rfl) ?_
  show sw_W E sw_gX m_X10_rumour d 0 [(0, .ref 0), (1, .int x1), (2, .int x2)] [] σ (sw_pI p)
  refine B_X10_rumour_0  (fun hc => ?_) (fun hc => ?_)
  · rw [if_pos hc] at h
    exact SC_X10_rumour_24 hd h
  · rw [if_neg hc] at h
    obtain ⟨q1, hq, h⟩ := sw_bnd h
    refine B_X10_rumour_5  (FC_X10_canCome (Nat.le_refl _) hq) (Nat.lt_of_lt_of_le (by decide) hd) (fun v s hvs => ?_)
    obtain ⟨hv1, hv2⟩ := hvs; subst hv1; subst hv2
    refine B_X10_rumour_12  (fun hc => ?_) (fun hc => ?_)
    · rw [if_pos hc] at h
      exact SC_X10_rumour_24 hd h
    · rw [if_neg hc] at h
      refine B_X10_rumour_15  (fun hc => ?_) (fun hc => ?_)
      · rw [if_pos hc] at h
        exact SC_X10_rumour_24 hd h
      · rw [if_neg hc] at h
        refine B_X10_rumour_19  (fun hc => ?_) (fun hc => ?_)
        · rw [if_pos hc] at h
          obtain ⟨q2, hq, h⟩ := sw_bnd h
          refine B_X10_rumour_26  (FC_X1_bestRumour (Nat.le_refl _) hq) (Nat.lt_of_lt_of_le (by decide) hd) (fun v s hvs => ?_)
          obtain ⟨hv1, hv2⟩ := hvs; subst hv1; subst hv2
          cases h
          exact B_X10_rumour_35  ⟨_, rfl, rfl, rfl⟩
        · rw [if_neg hc] at h
          exact SC_X10_rumour_24 hd h
/-! StrayWool.waits(III)I -/
noncomputable def S_X10_waits_27 (σ : sw_St) : Option (Int32 × sw_St) :=
  some ((-1), σ)
theorem SC_X10_waits_27 {E : sw_E} {d : Nat} (hd : 7 ≤ d) {p : Int32 × sw_St} {σ : sw_St} (h : S_X10_waits_27 σ  = some p) : sw_W E sw_gX m_X10_waits d 27 [] [] σ (sw_pI p) := by
  unfold S_X10_waits_27 at h
  cases h
  exact B_X10_waits_27  ⟨_, rfl, rfl, rfl⟩
noncomputable def F_X10_waits (σ : sw_St) (x1 : Int32) (x2 : Int32) (x3 : Int32) : Option (Int32 × sw_St) :=
  (F_X10_isSheep σ x1).bind fun q1 => if q1.1 = 0 then (S_X10_waits_27 q1.2 ) else ((F_X10_canCome q1.2 x2 60).bind fun q2 => if q2.1 = 0 then (S_X10_waits_27 q2.2 ) else (if x3 < 0 then (S_X10_waits_27 q2.2 ) else (if x3 ≤ 1 then ((F_X1_bestWait q2.2 x1 x2 x3).bind fun q3 => some (q3.1, q3.2)) else (S_X10_waits_27 q2.2 ))))
theorem FC_X10_waits {E : sw_E} {d : Nat} (hd : 7 ≤ d) {p : Int32 × sw_St} {σ : sw_St} {x1 : Int32} {x2 : Int32} {x3 : Int32} (h : F_X10_waits σ x1 x2 x3 = some p) : sw_KI E sw_gX m_X10_waits d [.ref 0, .int x1, .int x2, .int x3] σ (fun v s => v = p.1 ∧ s = p.2) := by
  unfold F_X10_waits at h
  refine sw_K.of (by decide +kernel) rfl (Nat.le_of_ble_eq_true rfl) ?_
  show sw_W E sw_gX m_X10_waits d 0 [(0, .ref 0), (1, .int x1), (2, .int x2), (3, .int x3)] [] σ (sw_pI p)
  obtain ⟨q1, hq, h⟩ := sw_bnd h
  refine B_X10_waits_0  (FC_X10_isSheep (Nat.le_refl _) hq) (Nat.lt_of_lt_of_le (by decide) hd) (fun v s hvs => ?_)
  obtain ⟨hv1, hv2⟩ := hvs; subst hv1; subst hv2
  refine B_X10_waits_5  (fun hc => ?_) (fun hc => ?_)
  · rw [if_pos hc] at h
    exact SC_X10_waits_27 hd h
  · rw [if_neg hc] at h
    obtain ⟨q2, hq, h⟩ := sw_bnd h
    refine B_X10_waits_8  (FC_X10_canCome (Nat.le_refl _) hq) (Nat.lt_of_lt_of_le (by decide) hd) (fun v s hvs => ?_)
    obtain ⟨hv1, hv2⟩ := hvs; subst hv1; subst hv2
    refine B_X10_waits_15  (fun hc => ?_) (fun hc => ?_)
    · rw [if_pos hc] at h
      exact SC_X10_waits_27 hd h
    · rw [if_neg hc] at h
      refine B_X10_waits_18  (fun hc => ?_) (fun hc => ?_)
      · rw [if_pos hc] at h
        exact SC_X10_waits_27 hd h
      · rw [if_neg hc] at h
        refine B_X10_waits_22  (fun hc => ?_) (fun hc => ?_)
        · rw [if_pos hc] at h
          obtain ⟨q3, hq, h⟩ := sw_bnd h
          refine B_X10_waits_29  (FC_X1_bestWait (Nat.le_refl _) hq) (Nat.lt_of_lt_of_le (by decide) hd) (fun v s hvs => ?_)
          obtain ⟨hv1, hv2⟩ := hvs; subst hv1; subst hv2
          cases h
          exact B_X10_waits_39  ⟨_, rfl, rfl, rfl⟩
        · rw [if_neg hc] at h
          exact SC_X10_waits_27 hd h
/-! StrayWool.watch(I)I -/
noncomputable def S_X10_watch_22 (σ : sw_St) (sx0 : Int32) : Option (Int32 × sw_St) :=
  some (sx0, σ)
theorem SC_X10_watch_22 {E : sw_E} {d : Nat} (hd : 7 ≤ d) {p : Int32 × sw_St} {σ : sw_St} {sx0 : Int32} (h : S_X10_watch_22 σ sx0 = some p) : sw_W E sw_gX m_X10_watch d 22 [] [.int sx0] σ (sw_pI p) := by
  unfold S_X10_watch_22 at h
  cases h
  exact B_X10_watch_22  ⟨_, rfl, rfl, rfl⟩
noncomputable def F_X10_watch (σ : sw_St) (x1 : Int32) : Option (Int32 × sw_St) :=
  (F_X10_canCome σ x1 60).bind fun q1 => if q1.1 = 0 then (S_X10_watch_22 q1.2 (-1)) else ((F_X1_leastWatch q1.2 x1).bind fun q2 => S_X10_watch_22 q2.2 q2.1)
theorem FC_X10_watch {E : sw_E} {d : Nat} (hd : 7 ≤ d) {p : Int32 × sw_St} {σ : sw_St} {x1 : Int32} (h : F_X10_watch σ x1 = some p) : sw_KI E sw_gX m_X10_watch d [.ref 0, .int x1] σ (fun v s => v = p.1 ∧ s = p.2) := by
  unfold F_X10_watch at h
  refine sw_K.of (by decide +kernel) rfl (Nat.le_of_ble_eq_true rfl) ?_
  show sw_W E sw_gX m_X10_watch d 0 [(0, .ref 0), (1, .int x1)] [] σ (sw_pI p)
  obtain ⟨q1, hq, h⟩ := sw_bnd h
  refine B_X10_watch_0  (FC_X10_canCome (Nat.le_refl _) hq) (Nat.lt_of_lt_of_le (by decide) hd) (fun v s hvs => ?_)
  obtain ⟨hv1, hv2⟩ := hvs; subst hv1; subst hv2
  refine B_X10_watch_7  (fun hc => ?_) (fun hc => ?_)
  · rw [if_pos hc] at h
    refine B_X10_watch_21  ?_
    exact SC_X10_watch_22 hd h
  · rw [if_neg hc] at h
    obtain ⟨q2, hq, h⟩ := sw_bnd h
    refine B_X10_watch_10  (FC_X1_leastWatch (Nat.le_refl _) hq) (Nat.lt_of_lt_of_le (by decide) hd) (fun v s hvs => ?_)
    obtain ⟨hv1, hv2⟩ := hvs; subst hv1; subst hv2
    refine B_X10_watch_18  ?_
    exact SC_X10_watch_22 hd h
/-! StrayWool.curious(I)I -/
noncomputable def F_X10_curious (σ : sw_St) (x1 : Int32) : Option (Int32 × sw_St) :=
  (F_X10_isSheep σ x1).bind fun q1 => if q1.1 = 0 then (some ((-1), q1.2)) else ((F_X1_fillCrimps q1.2 x1).bind fun q2 => (F_X1_curiousBits q2.2 x1).bind fun q3 => some (q3.1, q3.2))
theorem FC_X10_curious {E : sw_E} {d : Nat} (hd : 7 ≤ d) {p : Int32 × sw_St} {σ : sw_St} {x1 : Int32} (h : F_X10_curious σ x1 = some p) : sw_KI E sw_gX m_X10_curious d [.ref 0, .int x1] σ (fun v s => v = p.1 ∧ s = p.2) := by
  unfold F_X10_curious at h
  refine sw_K.of (by decide +kernel) rfl (Nat.le_of_ble_eq_true rfl) ?_
  show sw_W E sw_gX m_X10_curious d 0 [(0, .ref 0), (1, .int x1)] [] σ (sw_pI p)
  obtain ⟨q1, hq, h⟩ := sw_bnd h
  refine B_X10_curious_0  (FC_X10_isSheep (Nat.le_refl _) hq) (Nat.lt_of_lt_of_le (by decide) hd) (fun v s hvs => ?_)
  obtain ⟨hv1, hv2⟩ := hvs; subst hv1; subst hv2
  refine B_X10_curious_5  (fun hc => ?_) (fun hc => ?_)
  · rw [if_neg hc] at h
    obtain ⟨q2, hq, h⟩ := sw_bnd h
    refine B_X10_curious_10  (FC_X1_fillCrimps (Nat.le_refl _) hq) (Nat.lt_of_lt_of_le (by decide) hd) (fun s hvs => ?_)
    subst hvs
    obtain ⟨q3, hq, h⟩ := sw_bnd h
    refine B_X10_curious_18  (FC_X1_curiousBits (Nat.le_refl _) hq) (Nat.lt_of_lt_of_le (by decide) hd) (fun v s hvs => ?_)
    obtain ⟨hv1, hv2⟩ := hvs; subst hv1; subst hv2
    cases h
    exact B_X10_curious_26  ⟨_, rfl, rfl, rfl⟩
  · rw [if_pos hc] at h
    cases h
    exact B_X10_curious_8  ⟨_, rfl, rfl, rfl⟩
/-! StrayWool.tells(II)I -/
noncomputable def S_X10_tells_17 (σ : sw_St) : Option (Int32 × sw_St) :=
  some ((-1), σ)
theorem SC_X10_tells_17 {E : sw_E} {d : Nat} (hd : 7 ≤ d) {p : Int32 × sw_St} {σ : sw_St} (h : S_X10_tells_17 σ  = some p) : sw_W E sw_gX m_X10_tells d 17 [] [] σ (sw_pI p) := by
  unfold S_X10_tells_17 at h
  cases h
  exact B_X10_tells_17  ⟨_, rfl, rfl, rfl⟩
noncomputable def F_X10_tells (σ : sw_St) (x1 : Int32) (x2 : Int32) : Option (Int32 × sw_St) :=
  (F_X10_isSheep σ x1).bind fun q1 => if q1.1 = 0 then (S_X10_tells_17 q1.2 ) else (if x2 < 0 then (S_X10_tells_17 q1.2 ) else (if x2 ≤ 2 then ((F_X1_fillCrimps q1.2 x1).bind fun q2 => (F_X1_curiousBits q2.2 x1).bind fun q3 => (F_X1_telling q3.2 x1 q3.1 x2).bind fun q4 => some (q4.1, q4.2)) else (S_X10_tells_17 q1.2 )))
theorem FC_X10_tells {E : sw_E} {d : Nat} (hd : 7 ≤ d) {p : Int32 × sw_St} {σ : sw_St} {x1 : Int32} {x2 : Int32} (h : F_X10_tells σ x1 x2 = some p) : sw_KI E sw_gX m_X10_tells d [.ref 0, .int x1, .int x2] σ (fun v s => v = p.1 ∧ s = p.2) := by
  unfold F_X10_tells at h
  refine sw_K.of (by decide +kernel) rfl (Nat.le_of_ble_eq_true rfl) ?_
  show sw_W E sw_gX m_X10_tells d 0 [(0, .ref 0), (1, .int x1), (2, .int x2)] [] σ (sw_pI p)
  obtain ⟨q1, hq, h⟩ := sw_bnd h
  refine B_X10_tells_0  (FC_X10_isSheep (Nat.le_refl _) hq) (Nat.lt_of_lt_of_le (by decide) hd) (fun v s hvs => ?_)
  obtain ⟨hv1, hv2⟩ := hvs; subst hv1; subst hv2
  refine B_X10_tells_5  (fun hc => ?_) (fun hc => ?_)
  · rw [if_pos hc] at h
    exact SC_X10_tells_17 hd h
  · rw [if_neg hc] at h
    refine B_X10_tells_8  (fun hc => ?_) (fun hc => ?_)
    · rw [if_pos hc] at h
      exact SC_X10_tells_17 hd h
    · rw [if_neg hc] at h
      refine B_X10_tells_12  (fun hc => ?_) (fun hc => ?_)
      · rw [if_pos hc] at h
        obtain ⟨q2, hq, h⟩ := sw_bnd h
        refine B_X10_tells_19  (FC_X1_fillCrimps (Nat.le_refl _) hq) (Nat.lt_of_lt_of_le (by decide) hd) (fun s hvs => ?_)
        subst hvs
        obtain ⟨q3, hq, h⟩ := sw_bnd h
        refine B_X10_tells_27  (FC_X1_curiousBits (Nat.le_refl _) hq) (Nat.lt_of_lt_of_le (by decide) hd) (fun v s hvs => ?_)
        obtain ⟨hv1, hv2⟩ := hvs; subst hv1; subst hv2
        obtain ⟨q4, hq, h⟩ := sw_bnd h
        refine B_X10_tells_40  (FC_X1_telling (Nat.le_refl _) hq) (Nat.lt_of_lt_of_le (by decide) hd) (fun v s hvs => ?_)
        obtain ⟨hv1, hv2⟩ := hvs; subst hv1; subst hv2
        cases h
        exact B_X10_tells_44  ⟨_, rfl, rfl, rfl⟩
      · rw [if_neg hc] at h
        exact SC_X10_tells_17 hd h
/-! StrayWool.days(I)I -/
noncomputable def S_X10_days_15 (σ : sw_St) : Option (Int32 × sw_St) :=
  (F_X10_refuse σ 3).bind fun q1 => some (q1.1, q1.2)
theorem SC_X10_days_15 {E : sw_E} {d : Nat} (hd : 7 ≤ d) {p : Int32 × sw_St} {σ : sw_St} (h : S_X10_days_15 σ  = some p) : sw_W E sw_gX m_X10_days d 15 [(0, .ref 0)] [] σ (sw_pI p) := by
  unfold S_X10_days_15 at h
  obtain ⟨q1, hq, h⟩ := sw_bnd h
  refine B_X10_days_15  (FC_X10_refuse (Nat.le_refl _) hq) (Nat.lt_of_lt_of_le (by decide) hd) (fun v s hvs => ?_)
  obtain ⟨hv1, hv2⟩ := hvs; subst hv1; subst hv2
  cases h
  exact B_X10_days_20  ⟨_, rfl, rfl, rfl⟩
noncomputable def S_X10_days_36 (c36 : sw_St → Int32 → Int32 → Int32 → Option (Int32 × sw_St)) (σ : sw_St) (x1 : Int32) (x2 : Int32) (x3 : Int32) : Option (Int32 × sw_St) :=
  if x1 ≤ x3 then (some (x2, σ)) else ((F_X2_passDay σ 38).bind fun q1 => c36 q1.2 x1 (x2 + q1.1) (x3 + 1))
theorem SC_X10_days_36 {E : sw_E} {d : Nat} (hd : 7 ≤ d) {p : Int32 × sw_St} {c36 : sw_St → Int32 → Int32 → Int32 → Option (Int32 × sw_St)} (h36 : ∀ (σ : sw_St) (x1 : Int32) (x2 : Int32) (x3 : Int32), c36 σ x1 x2 x3 = some p → sw_W E sw_gX m_X10_days d 36 [(0, .ref 0), (1, .int x1), (2, .int x2), (3, .int x3)] [] σ (sw_pI p)) {σ : sw_St} {x1 : Int32} {x2 : Int32} {x3 : Int32} (h : S_X10_days_36 c36 σ x1 x2 x3 = some p) : sw_W E sw_gX m_X10_days d 36 [(0, .ref 0), (1, .int x1), (2, .int x2), (3, .int x3)] [] σ (sw_pI p) := by
  unfold S_X10_days_36 at h
  refine B_X10_days_36  (fun hc => ?_) (fun hc => ?_)
  · rw [if_pos hc] at h
    cases h
    exact B_X10_days_61  ⟨_, rfl, rfl, rfl⟩
  · rw [if_neg hc] at h
    obtain ⟨q1, hq, h⟩ := sw_bnd h
    refine B_X10_days_41  (FC_X2_passDay (Nat.le_refl _) hq) (Nat.lt_of_lt_of_le (by decide) hd) (fun v s hvs => ?_)
    obtain ⟨hv1, hv2⟩ := hvs; subst hv1; subst hv2
    refine B_X10_days_53  ?_
    exact h36 _ _ _ _ h
noncomputable def L_X10_days_36 : Nat → sw_St → Int32 → Int32 → Int32 → Option (Int32 × sw_St)
  | 0, _, _, _, _ => none
  | k + 1, σ, x1, x2, x3 => S_X10_days_36 (fun σ x1 x2 x3 => L_X10_days_36 k σ x1 x2 x3) σ x1 x2 x3
theorem LC_X10_days_36 {E : sw_E} {d : Nat} (hd : 7 ≤ d) {p : Int32 × sw_St} : ∀ (k : Nat) (σ : sw_St) (x1 : Int32) (x2 : Int32) (x3 : Int32), L_X10_days_36 k σ x1 x2 x3 = some p → sw_W E sw_gX m_X10_days d 36 [(0, .ref 0), (1, .int x1), (2, .int x2), (3, .int x3)] [] σ (sw_pI p) := by
  intro k
  induction k with
  | zero => intro σ x1 x2 x3 h; cases h
  | succ k ih => intro σ x1 x2 x3 h; exact SC_X10_days_36 hd ih h
noncomputable def F_X10_days (σ : sw_St) (x1 : Int32) : Option (Int32 × sw_St) :=
  if x1 < 1 then (S_X10_days_15 σ ) else ((F_X10_canCome σ x1 100).bind fun q1 => if q1.1 = 0 then (S_X10_days_15 q1.2 ) else ((F_X4_remember q1.2 38).bind fun q2 => L_X10_days_36 sw_fuel q2.2 x1 0 0))
theorem FC_X10_days {E : sw_E} {d : Nat} (hd : 7 ≤ d) {p : Int32 × sw_St} {σ : sw_St} {x1 : Int32} (h : F_X10_days σ x1 = some p) : sw_KI E sw_gX m_X10_days d [.ref 0, .int x1] σ (fun v s => v = p.1 ∧ s = p.2) := by
  unfold F_X10_days at h
  refine sw_K.of (by decide +kernel) rfl (Nat.le_of_ble_eq_true rfl) ?_
  show sw_W E sw_gX m_X10_days d 0 [(0, .ref 0), (1, .int x1)] [] σ (sw_pI p)
  refine B_X10_days_0  (fun hc => ?_) (fun hc => ?_)
  · rw [if_pos hc] at h
    exact SC_X10_days_15 hd h
  · rw [if_neg hc] at h
    obtain ⟨q1, hq, h⟩ := sw_bnd h
    refine B_X10_days_5  (FC_X10_canCome (Nat.le_refl _) hq) (Nat.lt_of_lt_of_le (by decide) hd) (fun v s hvs => ?_)
    obtain ⟨hv1, hv2⟩ := hvs; subst hv1; subst hv2
    refine B_X10_days_12  (fun hc => ?_) (fun hc => ?_)
    · rw [if_neg hc] at h
      obtain ⟨q2, hq, h⟩ := sw_bnd h
      refine B_X10_days_21  (FC_X4_remember (Nat.le_refl _) hq) (Nat.lt_of_lt_of_le (by decide) hd) (fun s hvs => ?_)
      subst hvs
      refine B_X10_days_32  ?_
      exact LC_X10_days_36 hd _ _ _ _ _ h
    · rw [if_pos hc] at h
      exact SC_X10_days_15 hd h
/-! StrayWool.chance(I)I -/
noncomputable def S_X10_chance_15 (σ : sw_St) : Option (Int32 × sw_St) :=
  (F_X10_refuse σ 3).bind fun q1 => some (q1.1, q1.2)
theorem SC_X10_chance_15 {E : sw_E} {d : Nat} (hd : 7 ≤ d) {p : Int32 × sw_St} {σ : sw_St} (h : S_X10_chance_15 σ  = some p) : sw_W E sw_gX m_X10_chance d 15 [(0, .ref 0)] [] σ (sw_pI p) := by
  unfold S_X10_chance_15 at h
  obtain ⟨q1, hq, h⟩ := sw_bnd h
  refine B_X10_chance_15  (FC_X10_refuse (Nat.le_refl _) hq) (Nat.lt_of_lt_of_le (by decide) hd) (fun v s hvs => ?_)
  obtain ⟨hv1, hv2⟩ := hvs; subst hv1; subst hv2
  cases h
  exact B_X10_chance_20  ⟨_, rfl, rfl, rfl⟩
noncomputable def S_X10_chance_51 (c36 : sw_St → Int32 → Int32 → Int32 → Option (Int32 × sw_St)) (σ : sw_St) (x1 : Int32) (x2 : Int32) (x3 : Int32) : Option (Int32 × sw_St) :=
  (F_X2_passDay σ 38).bind fun q1 => c36 q1.2 x1 x2 (x3 + 1)
theorem SC_X10_chance_51 {E : sw_E} {d : Nat} (hd : 7 ≤ d) {p : Int32 × sw_St} {c36 : sw_St → Int32 → Int32 → Int32 → Option (Int32 × sw_St)} (h36 : ∀ (σ : sw_St) (x1 : Int32) (x2 : Int32) (x3 : Int32), c36 σ x1 x2 x3 = some p → sw_W E sw_gX m_X10_chance d 36 [(0, .ref 0), (1, .int x1), (2, .int x2), (3, .int x3)] [] σ (sw_pI p)) {σ : sw_St} {x1 : Int32} {x2 : Int32} {x3 : Int32} (h : S_X10_chance_51 c36 σ x1 x2 x3 = some p) : sw_W E sw_gX m_X10_chance d 51 [(0, .ref 0), (1, .int x1), (2, .int x2), (3, .int x3)] [] σ (sw_pI p) := by
  unfold S_X10_chance_51 at h
  obtain ⟨q1, hq, h⟩ := sw_bnd h
  refine B_X10_chance_51  (FC_X2_passDay (Nat.le_refl _) hq) (Nat.lt_of_lt_of_le (by decide) hd) (fun v s hvs => ?_)
  obtain ⟨hv1, hv2⟩ := hvs; subst hv1; subst hv2
  refine B_X10_chance_62  ?_
  exact h36 _ _ _ _ h
noncomputable def S_X10_chance_36 (c36 : sw_St → Int32 → Int32 → Int32 → Option (Int32 × sw_St)) (σ : sw_St) (x1 : Int32) (x2 : Int32) (x3 : Int32) : Option (Int32 × sw_St) :=
  if x1 ≤ x3 then (some (x2, σ)) else ((F_X10_stormComes σ ).bind fun q1 => if q1.1 = 0 then (S_X10_chance_51 c36 q1.2 x1 x2 x3) else (S_X10_chance_51 c36 q1.2 x1 (x2 + 1) x3))
theorem SC_X10_chance_36 {E : sw_E} {d : Nat} (hd : 7 ≤ d) {p : Int32 × sw_St} {c36 : sw_St → Int32 → Int32 → Int32 → Option (Int32 × sw_St)} (h36 : ∀ (σ : sw_St) (x1 : Int32) (x2 : Int32) (x3 : Int32), c36 σ x1 x2 x3 = some p → sw_W E sw_gX m_X10_chance d 36 [(0, .ref 0), (1, .int x1), (2, .int x2), (3, .int x3)] [] σ (sw_pI p)) {σ : sw_St} {x1 : Int32} {x2 : Int32} {x3 : Int32} (h : S_X10_chance_36 c36 σ x1 x2 x3 = some p) : sw_W E sw_gX m_X10_chance d 36 [(0, .ref 0), (1, .int x1), (2, .int x2), (3, .int x3)] [] σ (sw_pI p) := by
  unfold S_X10_chance_36 at h
  refine B_X10_chance_36  (fun hc => ?_) (fun hc => ?_)
  · rw [if_pos hc] at h
    cases h
    exact B_X10_chance_69  ⟨_, rfl, rfl, rfl⟩
  · rw [if_neg hc] at h
    obtain ⟨q1, hq, h⟩ := sw_bnd h
    refine B_X10_chance_41  (FC_X10_stormComes (Nat.le_refl _) hq) (Nat.lt_of_lt_of_le (by decide) hd) (fun v s hvs => ?_)
    obtain ⟨hv1, hv2⟩ := hvs; subst hv1; subst hv2
    refine B_X10_chance_45  (fun hc => ?_) (fun hc => ?_)
    · rw [if_pos hc] at h
      exact SC_X10_chance_51 hd h36 h
    · rw [if_neg hc] at h
      refine B_X10_chance_48  ?_
      exact SC_X10_chance_51 hd h36 h
noncomputable def L_X10_chance_36 : Nat → sw_St → Int32 → Int32 → Int32 → Option (Int32 × sw_St)
  | 0, _, _, _, _ => none
  | k + 1, σ, x1, x2, x3 => S_X10_chance_36 (fun σ x1 x2 x3 => L_X10_chance_36 k σ x1 x2 x3) σ x1 x2 x3
theorem LC_X10_chance_36 {E : sw_E} {d : Nat} (hd : 7 ≤ d) {p : Int32 × sw_St} : ∀ (k : Nat) (σ : sw_St) (x1 : Int32) (x2 : Int32) (x3 : Int32), L_X10_chance_36 k σ x1 x2 x3 = some p → sw_W E sw_gX m_X10_chance d 36 [(0, .ref 0), (1, .int x1), (2, .int x2), (3, .int x3)] [] σ (sw_pI p) := by
  intro k
  induction k with
  | zero => intro σ x1 x2 x3 h; cases h
  | succ k ih => intro σ x1 x2 x3 h; exact SC_X10_chance_36 hd ih h
noncomputable def F_X10_chance (σ : sw_St) (x1 : Int32) : Option (Int32 × sw_St) :=
  if x1 < 1 then (S_X10_chance_15 σ ) else ((F_X10_canCome σ x1 100).bind fun q1 => if q1.1 = 0 then (S_X10_chance_15 q1.2 ) else ((F_X4_remember q1.2 38).bind fun q2 => L_X10_chance_36 sw_fuel q2.2 x1 0 0))
theorem FC_X10_chance {E : sw_E} {d : Nat} (hd : 7 ≤ d) {p : Int32 × sw_St} {σ : sw_St} {x1 : Int32} (h : F_X10_chance σ x1 = some p) : sw_KI E sw_gX m_X10_chance d [.ref 0, .int x1] σ (fun v s => v = p.1 ∧ s = p.2) := by
  unfold F_X10_chance at h
  refine sw_K.of (by decide +kernel) rfl (Nat.le_of_ble_eq_true rfl) ?_
  show sw_W E sw_gX m_X10_chance d 0 [(0, .ref 0), (1, .int x1)] [] σ (sw_pI p)
  refine B_X10_chance_0  (fun hc => ?_) (fun hc => ?_)
  · rw [if_pos hc] at h
    exact SC_X10_chance_15 hd h
  · rw [if_neg hc] at h
    obtain ⟨q1, hq, h⟩ := sw_bnd h
    refine B_X10_chance_5  (FC_X10_canCome (Nat.le_refl _) hq) (Nat.lt_of_lt_of_le (by decide) hd) (fun v s hvs => ?_)
    obtain ⟨hv1, hv2⟩ := hvs; subst hv1; subst hv2
    refine B_X10_chance_12  (fun hc => ?_) (fun hc => ?_)
    · rw [if_neg hc] at h
      obtain ⟨q2, hq, h⟩ := sw_bnd h
      refine B_X10_chance_21  (FC_X4_remember (Nat.le_refl _) hq) (Nat.lt_of_lt_of_le (by decide) hd) (fun s hvs => ?_)
      subst hvs
      refine B_X10_chance_32  ?_
      exact LC_X10_chance_36 hd _ _ _ _ _ h
    · rw [if_pos hc] at h
      exact SC_X10_chance_15 hd h
def sw_tdH (E : sw_E) (rc : sw_St → Int32 → Int32 → Int32 → Int32 → Int32 → Option (Unit × sw_St)) (d : Nat) : Prop := 5 ≤ d ∧ ∀ (σ : sw_St) (x1 x2 x3 x4 x5 : Int32) (p : Unit × sw_St), rc σ x1 x2 x3 x4 x5 = some p → sw_KV E sw_gX m_X1_tryDays d [.ref 54, .int x1, .int x2, .int x3, .int x4, .int x5] σ (fun s => s = p.2)
/-! StrayWool$Foresight.tryThrough(IIIIII)V -/
noncomputable def F_X1_tryThrough (rc : sw_St → Int32 → Int32 → Int32 → Int32 → Int32 → Option (Unit × sw_St)) (σ : sw_St) (x1 : Int32) (x2 : Int32) (x3 : Int32) (x4 : Int32) (x5 : Int32) (x6 : Int32) : Option (Unit × sw_St) :=
  if sw_inb x1 6 = true then ((σ.2.2 33 0).bind fun w2 => (if sw_isO sw_gX w2 9 = true then ((F_X9_beyond σ w2 x4 (σ.1 47 x1.toNatClampNeg)).bind fun q3 => if q3.1 = (-1) then (some ((), q3.2)) else (if sw_inb ((x1 * 8) + q3.1) 48 = true then (if sw_inb x1 6 = true then (if sw_inb x1 6 = true then ((F_X2_passThrough q3.2 46 x1 x4).bind fun q8 => (rc (sw_uI q8.2 46 0 ((q8.2.1 46 0) + 1)) x1 x2 (x3 - 1) x5 x6).bind fun q9 => if sw_inb x1 6 = true then (if sw_inb ((x1 * 8) + q3.1) 48 = true then (if sw_inb x1 6 = true then (if sw_inb x1 6 = true then (some ((), (sw_uI (sw_uI (sw_uI (sw_uI (sw_uI q9.2 46 0 ((q9.2.1 46 0) - 1)) 47 x1.toNatClampNeg (σ.1 47 x1.toNatClampNeg)) 52 ((x1 * 8) + q3.1).toNatClampNeg (q3.2.1 52 (((x1 * 8) + q3.1).toNatClampNeg))) 48 x1.toNatClampNeg (q3.2.1 48 x1.toNatClampNeg)) 49 x1.toNatClampNeg (q3.2.1 49 x1.toNatClampNeg)))) else none) else none) else none) else none) else none) else none) else none)) else none)) else none
theorem FC_X1_tryThrough {E : sw_E} {d : Nat} (hd : 5 ≤ d) {rc : sw_St → Int32 → Int32 → Int32 → Int32 → Int32 → Option (Unit × sw_St)} {d0 : Nat} (hrc : sw_tdH E rc d0) (hd0 : d0 < d) {p : Unit × sw_St} {σ : sw_St} {x1 : Int32} {x2 : Int32} {x3 : Int32} {x4 : Int32} {x5 : Int32} {x6 : Int32} (h : F_X1_tryThrough rc σ x1 x2 x3 x4 x5 x6 = some p) : sw_KV E sw_gX m_X1_tryThrough d [.ref 54, .int x1, .int x2, .int x3, .int x4, .int x5, .int x6] σ (fun s => s = p.2) := by
  unfold F_X1_tryThrough at h
  refine sw_K.of (by decide +kernel) rfl (Nat.le_of_ble_eq_true rfl) ?_
  show sw_W E sw_gX m_X1_tryThrough d 0 [(0, .ref 54), (1, .int x1), (2, .int x2), (3, .int x3), (4, .int x4), (5, .int x5), (6, .int x6)] [] σ (sw_pV p)
  obtain ⟨o1, h⟩ := sw_ifs h
  obtain ⟨w2, ow2, h⟩ := sw_bnd h
  obtain ⟨o4, h⟩ := sw_ifs h
  obtain ⟨q3, hq, h⟩ := sw_bnd h
  refine B_X1_tryThrough_0 (sw_inb_sp o1) ow2 (FC_X9_beyond (Nat.le_refl _) hq) (Nat.lt_of_lt_of_le (by decide) hd) (fun v s hvs => ?_) o4
  obtain ⟨hv1, hv2⟩ := hvs; subst hv1; subst hv2
  refine B_X1_tryThrough_25  (fun hc => ?_) (fun hc => ?_)
  · rw [if_neg hc] at h
    obtain ⟨o5, h⟩ := sw_ifs h
    obtain ⟨o6, h⟩ := sw_ifs h
    obtain ⟨o7, h⟩ := sw_ifs h
    obtain ⟨q8, hq, h⟩ := sw_bnd h
    refine B_X1_tryThrough_34 (sw_inb_sp o5) (sw_inb_sp o6) (sw_inb_sp o7) (FC_X2_passThrough (Nat.le_refl _) hq) (Nat.lt_of_lt_of_le (by decide) hd) (fun s hvs => ?_)
    subst hvs
    obtain ⟨q9, hq, h⟩ := sw_bnd h
    refine B_X1_tryThrough_91  (hrc.2 _ _ _ _ _ _ _ hq) hd0 (fun s hvs => ?_)
    subst hvs
    obtain ⟨o10, h⟩ := sw_ifs h
    obtain ⟨o11, h⟩ := sw_ifs h
    obtain ⟨o12, h⟩ := sw_ifs h
    obtain ⟨o13, h⟩ := sw_ifs h
    cases h
    exact B_X1_tryThrough_117 (sw_inb_sp o10) (sw_inb_sp o11) (sw_inb_sp o12) (sw_inb_sp o13) ⟨rfl, rfl⟩
  · rw [if_pos hc] at h
    cases h
    exact B_X1_tryThrough_33  ⟨rfl, rfl⟩
/-! StrayWool$Foresight.tryDays(IIIII)V -/
noncomputable def S_X1_tryDays_216 (rc : sw_St → Int32 → Int32 → Int32 → Int32 → Int32 → Option (Unit × sw_St)) (σ : sw_St) (x1 : Int32) (x2 : Int32) (x3 : Int32) (x9 : Int32) (x10 : Int32) : Option (Unit × sw_St) :=
  (rc (sw_uI σ 46 0 ((σ.1 46 0) + 1)) x1 x2 (x3 - 1) x9 x10).bind fun q1 => some ((), (sw_uI q1.2 46 0 ((q1.2.1 46 0) - 1)))
theorem SC_X1_tryDays_216 {E : sw_E} {d : Nat} (hd : 5 ≤ d) {rc : sw_St → Int32 → Int32 → Int32 → Int32 → Int32 → Option (Unit × sw_St)} {d0 : Nat} (hrc : sw_tdH E rc d0) (hd0 : d0 + 1 < d) {p : Unit × sw_St} {σ : sw_St} {x1 : Int32} {x2 : Int32} {x3 : Int32} {x9 : Int32} {x10 : Int32} (h : S_X1_tryDays_216 rc σ x1 x2 x3 x9 x10 = some p) : sw_W E sw_gX m_X1_tryDays d 216 [(0, .ref 54), (1, .int x1), (2, .int x2), (3, .int x3), (9, .int x9), (10, .int x10)] [] σ (sw_pV p) := by
  unfold S_X1_tryDays_216 at h
  obtain ⟨q1, hq, h⟩ := sw_bnd h
  refine B_X1_tryDays_216  (hrc.2 _ _ _ _ _ _ _ hq) (Nat.lt_of_succ_lt hd0) (fun s hvs => ?_)
  subst hvs
  cases h
  exact B_X1_tryDays_242  ⟨rfl, rfl⟩
noncomputable def S_X1_tryDays_99 (rc : sw_St → Int32 → Int32 → Int32 → Int32 → Int32 → Option (Unit × sw_St)) (c99 : sw_St → Int32 → Int32 → Int32 → Int32 → Int32 → Int32 → Int32 → Int32 → Option (Unit × sw_St)) (σ : sw_St) (x1 : Int32) (x2 : Int32) (x3 : Int32) (x6 : Int32) (x8 : Int32) (x9 : Int32) (x10 : Int32) (x11 : Int32) : Option (Unit × sw_St) :=
  if 10 ≤ x11 then (S_X1_tryDays_216 rc σ x1 x2 x3 x9 x10) else (if x8 = 0 then (S_X1_tryDays_216 rc σ x1 x2 x3 x9 x10) else ((F_X2_mostLuring σ x8 56 x6).bind fun q1 => if q1.1 = (-1) then (some ((), q1.2)) else ((F_X1_tryThrough rc q1.2 x1 x2 x3 q1.1 (x9 ||| ((1 : Int32) <<< (q1.1 &&& 31))) (x10 ||| (((1 : Int32) <<< (q1.1 &&& 31)) &&& ((q1.2.1 38 2) ^^^ (-1))))).bind fun q2 => if (x9 &&& ((1 : Int32) <<< (q1.1 &&& 31))) = 0 then (c99 q2.2 x1 x2 x3 x6 (x8 &&& (((1 : Int32) <<< (q1.1 &&& 31)) ^^^ (-1))) (x9 ||| ((1 : Int32) <<< (q1.1 &&& 31))) (x10 ||| (((1 : Int32) <<< (q1.1 &&& 31)) &&& (q2.2.1 38 2))) (x11 + 1)) else (some ((), q2.2)))))
theorem SC_X1_tryDays_99 {E : sw_E} {d : Nat} (hd : 5 ≤ d) {rc : sw_St → Int32 → Int32 → Int32 → Int32 → Int32 → Option (Unit × sw_St)} {d0 : Nat} (hrc : sw_tdH E rc d0) (hd0 : d0 + 1 < d) {p : Unit × sw_St} {c99 : sw_St → Int32 → Int32 → Int32 → Int32 → Int32 → Int32 → Int32 → Int32 → Option (Unit × sw_St)} (h99 : ∀ (σ : sw_St) (x1 : Int32) (x2 : Int32) (x3 : Int32) (x6 : Int32) (x8 : Int32) (x9 : Int32) (x10 : Int32) (x11 : Int32), c99 σ x1 x2 x3 x6 x8 x9 x10 x11 = some p → sw_W E sw_gX m_X1_tryDays d 99 [(0, .ref 54), (1, .int x1), (2, .int x2), (3, .int x3), (6, .int x6), (8, .int x8), (9, .int x9), (10, .int x10), (11, .int x11)] [] σ (sw_pV p)) {σ : sw_St} {x1 : Int32} {x2 : Int32} {x3 : Int32} {x6 : Int32} {x8 : Int32} {x9 : Int32} {x10 : Int32} {x11 : Int32} (h : S_X1_tryDays_99 rc c99 σ x1 x2 x3 x6 x8 x9 x10 x11 = some p) : sw_W E sw_gX m_X1_tryDays d 99 [(0, .ref 54), (1, .int x1), (2, .int x2), (3, .int x3), (6, .int x6), (8, .int x8), (9, .int x9), (10, .int x10), (11, .int x11)] [] σ (sw_pV p) := by
  unfold S_X1_tryDays_99 at h
  refine B_X1_tryDays_99  (fun hc => ?_) (fun hc => ?_)
  · rw [if_pos hc] at h
    exact SC_X1_tryDays_216 hd hrc hd0 h
  · rw [if_neg hc] at h
    refine B_X1_tryDays_106  (fun hc => ?_) (fun hc => ?_)
    · rw [if_pos hc] at h
      exact SC_X1_tryDays_216 hd hrc hd0 h
    · rw [if_neg hc] at h
      obtain ⟨q1, hq, h⟩ := sw_bnd h
      refine B_X1_tryDays_111  (FC_X2_mostLuring (Nat.le_refl _) hq) (Nat.lt_of_lt_of_le (by decide) hd) (fun v s hvs => ?_)
      obtain ⟨hv1, hv2⟩ := hvs; subst hv1; subst hv2
      refine B_X1_tryDays_126  (fun hc => ?_) (fun hc => ?_)
      · rw [if_neg hc] at h
        obtain ⟨q2, hq, h⟩ := sw_bnd h
        refine B_X1_tryDays_135  (FC_X1_tryThrough (d := d0 + 1) (Nat.le_succ_of_le hrc.1) hrc (Nat.lt_succ_self _) hq) hd0 (fun s hvs => ?_)
        subst hvs
        refine B_X1_tryDays_170  (fun hc => ?_) (fun hc => ?_)
        · rw [if_pos hc] at h
          refine B_X1_tryDays_179  ?_
          exact h99 _ _ _ _ _ _ _ _ _ h
        · rw [if_neg hc] at h
          cases h
          exact B_X1_tryDays_178  ⟨rfl, rfl⟩
      · rw [if_pos hc] at h
        cases h
        exact B_X1_tryDays_134  ⟨rfl, rfl⟩
noncomputable def L_X1_tryDays_99 (rc : sw_St → Int32 → Int32 → Int32 → Int32 → Int32 → Option (Unit × sw_St)) : Nat → sw_St → Int32 → Int32 → Int32 → Int32 → Int32 → Int32 → Int32 → Int32 → Option (Unit × sw_St)
  | 0, _, _, _, _, _, _, _, _, _ => none
  | k + 1, σ, x1, x2, x3, x6, x8, x9, x10, x11 => S_X1_tryDays_99 rc (fun σ x1 x2 x3 x6 x8 x9 x10 x11 => L_X1_tryDays_99 rc k σ x1 x2 x3 x6 x8 x9 x10 x11) σ x1 x2 x3 x6 x8 x9 x10 x11
theorem LC_X1_tryDays_99 {E : sw_E} {d : Nat} (hd : 5 ≤ d) {rc : sw_St → Int32 → Int32 → Int32 → Int32 → Int32 → Option (Unit × sw_St)} {d0 : Nat} (hrc : sw_tdH E rc d0) (hd0 : d0 + 1 < d) {p : Unit × sw_St} : ∀ (k : Nat) (σ : sw_St) (x1 : Int32) (x2 : Int32) (x3 : Int32) (x6 : Int32) (x8 : Int32) (x9 : Int32) (x10 : Int32) (x11 : Int32), L_X1_tryDays_99 rc k σ x1 x2 x3 x6 x8 x9 x10 x11 = some p → sw_W E sw_gX m_X1_tryDays d 99 [(0, .ref 54), (1, .int x1), (2, .int x2), (3, .int x3), (6, .int x6), (8, .int x8), (9, .int x9), (10, .int x10), (11, .int x11)] [] σ (sw_pV p) := by
  intro k
  induction k with
  | zero => intro σ x1 x2 x3 x6 x8 x9 x10 x11 h; cases h
  | succ k ih => intro σ x1 x2 x3 x6 x8 x9 x10 x11 h; exact SC_X1_tryDays_99 hd hrc hd0 ih h
noncomputable def S_X1_tryDays_37 (rc : sw_St → Int32 → Int32 → Int32 → Int32 → Int32 → Option (Unit × sw_St)) (σ : sw_St) (sx0 : Int32) : Option (Unit × sw_St) :=
  some ((), (sw_uI σ 54 5 sx0))
theorem SC_X1_tryDays_37 {E : sw_E} {d : Nat} (hd : 5 ≤ d) {rc : sw_St → Int32 → Int32 → Int32 → Int32 → Int32 → Option (Unit × sw_St)} {d0 : Nat} (hrc : sw_tdH E rc d0) (hd0 : d0 + 1 < d) {p : Unit × sw_St} {σ : sw_St} {sx0 : Int32} (h : S_X1_tryDays_37 rc σ sx0 = some p) : sw_W E sw_gX m_X1_tryDays d 37 [] [.int sx0, .ref 54] σ (sw_pV p) := by
  unfold S_X1_tryDays_37 at h
  cases h
  exact B_X1_tryDays_37  ⟨rfl, rfl⟩
noncomputable def F_X1_tryDays (rc : sw_St → Int32 → Int32 → Int32 → Int32 → Int32 → Option (Unit × sw_St)) (σ : sw_St) (x1 : Int32) (x2 : Int32) (x3 : Int32) (x4 : Int32) (x5 : Int32) : Option (Unit × sw_St) :=
  (F_X1_isFewer σ x5).bind fun q1 => if q1.1 = 0 then (some ((), q1.2)) else (if 0 < x3 then ((F_X2_luring q1.2 46 x1 ((x4 &&& (((q1.2.1 38 2) ^^^ x5) ^^^ (-1))) ^^^ (-1)) 56 (x3 * 10)).bind fun q2 => L_X1_tryDays_99 rc sw_fuel q2.2 x1 x2 x3 (x3 * 10) q2.1 x4 x5 0) else (if sw_inb x1 6 = true then (if (q1.2.1 47 x1.toNatClampNeg) = x2 then (S_X1_tryDays_37 rc q1.2 x5) else (S_X1_tryDays_37 rc q1.2 (q1.2.1 54 5))) else none))
theorem FC_X1_tryDays {E : sw_E} {d : Nat} (hd : 5 ≤ d) {rc : sw_St → Int32 → Int32 → Int32 → Int32 → Int32 → Option (Unit × sw_St)} {d0 : Nat} (hrc : sw_tdH E rc d0) (hd0 : d0 + 1 < d) {p : Unit × sw_St} {σ : sw_St} {x1 : Int32} {x2 : Int32} {x3 : Int32} {x4 : Int32} {x5 : Int32} (h : F_X1_tryDays rc σ x1 x2 x3 x4 x5 = some p) : sw_KV E sw_gX m_X1_tryDays d [.ref 54, .int x1, .int x2, .int x3, .int x4, .int x5] σ (fun s => s = p.2) := by
  unfold F_X1_tryDays at h
  refine sw_K.of (by decide +kernel) rfl (Nat.le_of_ble_eq_true rfl) ?_
  show sw_W E sw_gX m_X1_tryDays d 0 [(0, .ref 54), (1, .int x1), (2, .int x2), (3, .int x3), (4, .int x4), (5, .int x5)] [] σ (sw_pV p)
  obtain ⟨q1, hq, h⟩ := sw_bnd h
  refine B_X1_tryDays_0  (FC_X1_isFewer (Nat.le_refl _) hq) (Nat.lt_of_lt_of_le (by decide) hd) (fun v s hvs => ?_)
  obtain ⟨hv1, hv2⟩ := hvs; subst hv1; subst hv2
  refine B_X1_tryDays_6  (fun hc => ?_) (fun hc => ?_)
  · rw [if_neg hc] at h
    refine B_X1_tryDays_10  (fun hc => ?_) (fun hc => ?_)
    · rw [if_pos hc] at h
      obtain ⟨q2, hq, h⟩ := sw_bnd h
      refine B_X1_tryDays_41  (FC_X2_luring (Nat.le_refl _) hq) (Nat.lt_of_lt_of_le (by decide) hd) (fun v s hvs => ?_)
      obtain ⟨hv1, hv2⟩ := hvs; subst hv1; subst hv2
      refine B_X1_tryDays_86  ?_
      exact LC_X1_tryDays_99 hd hrc hd0 _ _ _ _ _ _ _ _ _ _ h
    · rw [if_neg hc] at h
      obtain ⟨o3, h⟩ := sw_ifs h
      refine B_X1_tryDays_14 (sw_inb_sp o3) (fun hc => ?_) (fun hc => ?_)
      · rw [if_neg hc] at h
        refine B_X1_tryDays_33  ?_
        exact SC_X1_tryDays_37 hd hrc hd0 h
      · rw [if_pos hc] at h
        refine B_X1_tryDays_28  ?_
        exact SC_X1_tryDays_37 hd hrc hd0 h
  · rw [if_pos hc] at h
    cases h
    exact B_X1_tryDays_9  ⟨rfl, rfl⟩
noncomputable def R_td : Nat → sw_St → Int32 → Int32 → Int32 → Int32 → Int32 → Option (Unit × sw_St)
  | 0, _, _, _, _, _, _ => none
  | k + 1, σ, x1, x2, x3, x4, x5 => F_X1_tryDays (R_td k) σ x1 x2 x3 x4 x5
theorem RC_td {E : sw_E} : ∀ k : Nat, sw_tdH E (R_td k) (5 + 2 * k) := by
  intro k
  induction k with
  | zero => exact ⟨by omega, fun _ _ _ _ _ _ _ h => (by cases h)⟩
  | succ k ih => exact ⟨by omega, fun _ _ _ _ _ _ _ h => FC_X1_tryDays (by omega) ih (by omega) (by rw [R_td] at h; exact h)⟩
theorem RC_tdS {E : sw_E} (σ : sw_St) (x1 x2 x3 x4 x5 : Int32) (p : Unit × sw_St) (h : R_td sw_depth σ x1 x2 x3 x4 x5 = some p) : sw_KV E sw_gX m_X1_tryDays 125 [.ref 54, .int x1, .int x2, .int x3, .int x4, .int x5] σ (fun s => s = p.2) := (RC_td sw_depth).2 σ x1 x2 x3 x4 x5 p h
/-! StrayWool$Foresight.fewestChanges(III)I -/
noncomputable def F_X1_fewestChanges (σ : sw_St) (x1 : Int32) (x2 : Int32) (x3 : Int32) : Option (Int32 × sw_St) :=
  (F_X8_copyOne σ 46 38 x1).bind fun q1 => (R_td sw_depth (sw_uI q1.2 54 5 (-1)) x1 x2 x3 0 0).bind fun q2 => some (q2.2.1 54 5, q2.2)
theorem FC_X1_fewestChanges {E : sw_E} {d : Nat} (hd : 126 ≤ d) {p : Int32 × sw_St} {σ : sw_St} {x1 : Int32} {x2 : Int32} {x3 : Int32} (h : F_X1_fewestChanges σ x1 x2 x3 = some p) : sw_KI E sw_gX m_X1_fewestChanges d [.ref 54, .int x1, .int x2, .int x3] σ (fun v s => v = p.1 ∧ s = p.2) := by
  unfold F_X1_fewestChanges at h
  refine sw_K.of (by decide +kernel) rfl (Nat.le_of_ble_eq_true rfl) ?_
  show sw_W E sw_gX m_X1_fewestChanges d 0 [(0, .ref 54), (1, .int x1), (2, .int x2), (3, .int x3)] [] σ (sw_pI p)
  obtain ⟨q1, hq, h⟩ := sw_bnd h
  refine B_X1_fewestChanges_0  (FC_X8_copyOne (Nat.le_refl _) hq) (Nat.lt_of_lt_of_le (by decide) hd) (fun s hvs => ?_)
  subst hvs
  obtain ⟨q2, hq, h⟩ := sw_bnd h
  refine B_X1_fewestChanges_12  (RC_tdS _ _ _ _ _ _ _ hq) (Nat.lt_of_lt_of_le (by decide) hd) (fun s hvs => ?_)
  subst hvs
  cases h
  exact B_X1_fewestChanges_26  ⟨_, rfl, rfl, rfl⟩
/-! StrayWool.gaps(III)I -/
noncomputable def S_X10_gaps_26 (σ : sw_St) : Option (Int32 × sw_St) :=
  some ((-1), σ)
theorem SC_X10_gaps_26 {E : sw_E} {d : Nat} (hd : 127 ≤ d) {p : Int32 × sw_St} {σ : sw_St} (h : S_X10_gaps_26 σ  = some p) : sw_W E sw_gX m_X10_gaps d 26 [] [] σ (sw_pI p) := by
  unfold S_X10_gaps_26 at h
  cases h
  exact B_X10_gaps_26  ⟨_, rfl, rfl, rfl⟩
noncomputable def F_X10_gaps (σ : sw_St) (x1 : Int32) (x2 : Int32) (x3 : Int32) : Option (Int32 × sw_St) :=
  (F_X10_isSheep σ x1).bind fun q1 => if q1.1 = 0 then (S_X10_gaps_26 q1.2 ) else ((F_X10_isField q1.2 x2).bind fun q2 => if q2.1 = 0 then (S_X10_gaps_26 q2.2 ) else ((F_X10_canCome q2.2 x3 20).bind fun q3 => if q3.1 = 0 then (S_X10_gaps_26 q3.2 ) else ((F_X1_fewestChanges q3.2 x1 x2 x3).bind fun q4 => some (q4.1, q4.2))))
theorem FC_X10_gaps {E : sw_E} {d : Nat} (hd : 127 ≤ d) {p : Int32 × sw_St} {σ : sw_St} {x1 : Int32} {x2 : Int32} {x3 : Int32} (h : F_X10_gaps σ x1 x2 x3 = some p) : sw_KI E sw_gX m_X10_gaps d [.ref 0, .int x1, .int x2, .int x3] σ (fun v s => v = p.1 ∧ s = p.2) := by
  unfold F_X10_gaps at h
  refine sw_K.of (by decide +kernel) rfl (Nat.le_of_ble_eq_true rfl) ?_
  show sw_W E sw_gX m_X10_gaps d 0 [(0, .ref 0), (1, .int x1), (2, .int x2), (3, .int x3)] [] σ (sw_pI p)
  obtain ⟨q1, hq, h⟩ := sw_bnd h
  refine B_X10_gaps_0  (FC_X10_isSheep (Nat.le_refl _) hq) (Nat.lt_of_lt_of_le (by decide) hd) (fun v s hvs => ?_)
  obtain ⟨hv1, hv2⟩ := hvs; subst hv1; subst hv2
  refine B_X10_gaps_5  (fun hc => ?_) (fun hc => ?_)
  · rw [if_pos hc] at h
    exact SC_X10_gaps_26 hd h
  · rw [if_neg hc] at h
    obtain ⟨q2, hq, h⟩ := sw_bnd h
    refine B_X10_gaps_8  (FC_X10_isField (Nat.le_refl _) hq) (Nat.lt_of_lt_of_le (by decide) hd) (fun v s hvs => ?_)
    obtain ⟨hv1, hv2⟩ := hvs; subst hv1; subst hv2
    refine B_X10_gaps_13  (fun hc => ?_) (fun hc => ?_)
    · rw [if_pos hc] at h
      exact SC_X10_gaps_26 hd h
    · rw [if_neg hc] at h
      obtain ⟨q3, hq, h⟩ := sw_bnd h
      refine B_X10_gaps_16  (FC_X10_canCome (Nat.le_refl _) hq) (Nat.lt_of_lt_of_le (by decide) hd) (fun v s hvs => ?_)
      obtain ⟨hv1, hv2⟩ := hvs; subst hv1; subst hv2
      refine B_X10_gaps_23  (fun hc => ?_) (fun hc => ?_)
      · rw [if_neg hc] at h
        obtain ⟨q4, hq, h⟩ := sw_bnd h
        refine B_X10_gaps_28  (FC_X1_fewestChanges (Nat.le_refl _) hq) (Nat.lt_of_lt_of_le (by decide) hd) (fun v s hvs => ?_)
        obtain ⟨hv1, hv2⟩ := hvs; subst hv1; subst hv2
        cases h
        exact B_X10_gaps_38  ⟨_, rfl, rfl, rfl⟩
      · rw [if_pos hc] at h
        exact SC_X10_gaps_26 hd h
def sw_pgH (E : sw_E) (rc : Nat → sw_St → Int32 → Option (Int32 × sw_St)) (d : Nat) : Prop := (∀ (σ : sw_St) (x : Int32) (p : Int32 × sw_St), rc 0 σ x = some p → sw_KI E sw_gX m_X3_test d [.ref 32, .int x] σ (fun v s => v = p.1 ∧ s = p.2)) ∧ (∀ (σ : sw_St) (x : Int32) (p : Int32 × sw_St), rc 1 σ x = some p → sw_KI E sw_gX m_X3_both d [.ref 32, .int x] σ (fun v s => v = p.1 ∧ s = p.2)) ∧ (∀ (σ : sw_St) (x : Int32) (p : Int32 × sw_St), rc 2 σ x = some p → sw_KI E sw_gX m_X3_fact d [.ref 32, .int x] σ (fun v s => v = p.1 ∧ s = p.2)) ∧ (∀ (σ : sw_St) (x : Int32) (p : Int32 × sw_St), rc 3 σ x = some p → sw_KI E sw_gX m_X3_sum d [.ref 32, .int x] σ (fun v s => v = p.1 ∧ s = p.2)) ∧ (∀ (σ : sw_St) (x : Int32) (p : Int32 × sw_St), rc 4 σ x = some p → sw_KI E sw_gX m_X3_product d [.ref 32, .int x] σ (fun v s => v = p.1 ∧ s = p.2)) ∧ (∀ (σ : sw_St) (x : Int32) (p : Int32 × sw_St), rc 5 σ x = some p → sw_KI E sw_gX m_X3_part d [.ref 32, .int x] σ (fun v s => v = p.1 ∧ s = p.2))
/-! StrayWool$Parser.test(I)Z -/
noncomputable def S_X3_test_37 (rc : Nat → sw_St → Int32 → Option (Int32 × sw_St)) (c2 : sw_St → Int32 → Int32 → Option (Int32 × sw_St)) (σ : sw_St) (x1 : Int32) (x2 : Int32) : Option (Int32 × sw_St) :=
  if (σ.1 2 2) = 275 then ((F_X6_advance σ ).bind fun q1 => c2 q1.2 x1 (x2 + 1)) else (some (1, σ))
theorem SC_X3_test_37 {E : sw_E} {d : Nat} (hd : 7 ≤ d) {rc : Nat → sw_St → Int32 → Option (Int32 × sw_St)} {d0 : Nat} (hrc : sw_pgH E rc d0) (hd0 : d0 < d) {p : Int32 × sw_St} {c2 : sw_St → Int32 → Int32 → Option (Int32 × sw_St)} (h2 : ∀ (σ : sw_St) (x1 : Int32) (x2 : Int32), c2 σ x1 x2 = some p → sw_W E sw_gX m_X3_test d 2 [(0, .ref 32), (1, .int x1), (2, .int x2)] [] σ (sw_pI p)) {σ : sw_St} {x1 : Int32} {x2 : Int32} (h : S_X3_test_37 rc c2 σ x1 x2 = some p) : sw_W E sw_gX m_X3_test d 37 [(0, .ref 32), (1, .int x1), (2, .int x2)] [] σ (sw_pI p) := by
  unfold S_X3_test_37 at h
  refine B_X3_test_37  (fun hc => ?_) (fun hc => ?_)
  · rw [if_pos hc] at h
    obtain ⟨q1, hq, h⟩ := sw_bnd h
    refine B_X3_test_52  (FC_X6_advance (Nat.le_refl _) hq) (Nat.lt_of_lt_of_le (by decide) hd) (fun s hvs => ?_)
    subst hvs
    refine B_X3_test_59  ?_
    exact h2 _ _ _ h
  · rw [if_neg hc] at h
    cases h
    exact B_X3_test_50  ⟨_, rfl, rfl, rfl⟩
noncomputable def S_X3_test_2 (rc : Nat → sw_St → Int32 → Option (Int32 × sw_St)) (c2 : sw_St → Int32 → Int32 → Option (Int32 × sw_St)) (σ : sw_St) (x1 : Int32) (x2 : Int32) : Option (Int32 × sw_St) :=
  if (σ.1 2 1) < x2 then (some (0, σ)) else ((rc 1 σ x1).bind fun q1 => if q1.1 = 0 then (some (0, q1.2)) else (if x2 ≤ 0 then (S_X3_test_37 rc c2 q1.2 x1 x2) else ((q1.2.2.2 32 2).bind fun w2 => (if sw_isO sw_gX w2 0 = true then ((F_X0_emit q1.2 w2 10020).bind fun q3 => S_X3_test_37 rc c2 q3.2 x1 x2) else none))))
theorem SC_X3_test_2 {E : sw_E} {d : Nat} (hd : 7 ≤ d) {rc : Nat → sw_St → Int32 → Option (Int32 × sw_St)} {d0 : Nat} (hrc : sw_pgH E rc d0) (hd0 : d0 < d) {p : Int32 × sw_St} {c2 : sw_St → Int32 → Int32 → Option (Int32 × sw_St)} (h2 : ∀ (σ : sw_St) (x1 : Int32) (x2 : Int32), c2 σ x1 x2 = some p → sw_W E sw_gX m_X3_test d 2 [(0, .ref 32), (1, .int x1), (2, .int x2)] [] σ (sw_pI p)) {σ : sw_St} {x1 : Int32} {x2 : Int32} (h : S_X3_test_2 rc c2 σ x1 x2 = some p) : sw_W E sw_gX m_X3_test d 2 [(0, .ref 32), (1, .int x1), (2, .int x2)] [] σ (sw_pI p) := by
  unfold S_X3_test_2 at h
  refine B_X3_test_2  (fun hc => ?_) (fun hc => ?_)
  · rw [if_pos hc] at h
    cases h
    exact B_X3_test_65  ⟨_, rfl, rfl, rfl⟩
  · rw [if_neg hc] at h
    obtain ⟨q1, hq, h⟩ := sw_bnd h
    refine B_X3_test_13  (hrc.2.1 _ _ _ hq) hd0 (fun v s hvs => ?_)
    obtain ⟨hv1, hv2⟩ := hvs; subst hv1; subst hv2
    refine B_X3_test_18  (fun hc => ?_) (fun hc => ?_)
    · rw [if_neg hc] at h
      refine B_X3_test_23  (fun hc => ?_) (fun hc => ?_)
      · rw [if_pos hc] at h
        exact SC_X3_test_37 hd hrc hd0 h2 h
      · rw [if_neg hc] at h
        obtain ⟨w2, ow2, h⟩ := sw_bnd h
        obtain ⟨o4, h⟩ := sw_ifs h
        obtain ⟨q3, hq, h⟩ := sw_bnd h
        refine B_X3_test_27 ow2 (FC_X0_emit (Nat.le_refl _) hq) (Nat.lt_of_lt_of_le (by decide) hd) (fun s hvs => ?_) o4
        subst hvs
        exact SC_X3_test_37 hd hrc hd0 h2 h
    · rw [if_pos hc] at h
      cases h
      exact B_X3_test_21  ⟨_, rfl, rfl, rfl⟩
noncomputable def L_X3_test_2 (rc : Nat → sw_St → Int32 → Option (Int32 × sw_St)) : Nat → sw_St → Int32 → Int32 → Option (Int32 × sw_St)
  | 0, _, _, _ => none
  | k + 1, σ, x1, x2 => S_X3_test_2 rc (fun σ x1 x2 => L_X3_test_2 rc k σ x1 x2) σ x1 x2
theorem LC_X3_test_2 {E : sw_E} {d : Nat} (hd : 7 ≤ d) {rc : Nat → sw_St → Int32 → Option (Int32 × sw_St)} {d0 : Nat} (hrc : sw_pgH E rc d0) (hd0 : d0 < d) {p : Int32 × sw_St} : ∀ (k : Nat) (σ : sw_St) (x1 : Int32) (x2 : Int32), L_X3_test_2 rc k σ x1 x2 = some p → sw_W E sw_gX m_X3_test d 2 [(0, .ref 32), (1, .int x1), (2, .int x2)] [] σ (sw_pI p) := by
  intro k
  induction k with
  | zero => intro σ x1 x2 h; cases h
  | succ k ih => intro σ x1 x2 h; exact SC_X3_test_2 hd hrc hd0 ih h
noncomputable def F_X3_test (rc : Nat → sw_St → Int32 → Option (Int32 × sw_St)) (σ : sw_St) (x1 : Int32) : Option (Int32 × sw_St) :=
  L_X3_test_2 rc sw_fuel σ x1 0
theorem FC_X3_test {E : sw_E} {d : Nat} (hd : 7 ≤ d) {rc : Nat → sw_St → Int32 → Option (Int32 × sw_St)} {d0 : Nat} (hrc : sw_pgH E rc d0) (hd0 : d0 < d) {p : Int32 × sw_St} {σ : sw_St} {x1 : Int32} (h : F_X3_test rc σ x1 = some p) : sw_KI E sw_gX m_X3_test d [.ref 32, .int x1] σ (fun v s => v = p.1 ∧ s = p.2) := by
  unfold F_X3_test at h
  refine sw_K.of (by decide +kernel) rfl (Nat.le_of_ble_eq_true rfl) ?_
  show sw_W E sw_gX m_X3_test d 0 [(0, .ref 32), (1, .int x1)] [] σ (sw_pI p)
  refine B_X3_test_0  ?_
  exact LC_X3_test_2 hd hrc hd0 _ _ _ _ h
/-! StrayWool$Parser.both(I)Z -/
noncomputable def S_X3_both_37 (rc : Nat → sw_St → Int32 → Option (Int32 × sw_St)) (c2 : sw_St → Int32 → Int32 → Option (Int32 × sw_St)) (σ : sw_St) (x1 : Int32) (x2 : Int32) : Option (Int32 × sw_St) :=
  if (σ.1 2 2) = 276 then ((F_X6_advance σ ).bind fun q1 => c2 q1.2 x1 (x2 + 1)) else (some (1, σ))
theorem SC_X3_both_37 {E : sw_E} {d : Nat} (hd : 7 ≤ d) {rc : Nat → sw_St → Int32 → Option (Int32 × sw_St)} {d0 : Nat} (hrc : sw_pgH E rc d0) (hd0 : d0 < d) {p : Int32 × sw_St} {c2 : sw_St → Int32 → Int32 → Option (Int32 × sw_St)} (h2 : ∀ (σ : sw_St) (x1 : Int32) (x2 : Int32), c2 σ x1 x2 = some p → sw_W E sw_gX m_X3_both d 2 [(0, .ref 32), (1, .int x1), (2, .int x2)] [] σ (sw_pI p)) {σ : sw_St} {x1 : Int32} {x2 : Int32} (h : S_X3_both_37 rc c2 σ x1 x2 = some p) : sw_W E sw_gX m_X3_both d 37 [(0, .ref 32), (1, .int x1), (2, .int x2)] [] σ (sw_pI p) := by
  unfold S_X3_both_37 at h
  refine B_X3_both_37  (fun hc => ?_) (fun hc => ?_)
  · rw [if_pos hc] at h
    obtain ⟨q1, hq, h⟩ := sw_bnd h
    refine B_X3_both_52  (FC_X6_advance (Nat.le_refl _) hq) (Nat.lt_of_lt_of_le (by decide) hd) (fun s hvs => ?_)
    subst hvs
    refine B_X3_both_59  ?_
    exact h2 _ _ _ h
  · rw [if_neg hc] at h
    cases h
    exact B_X3_both_50  ⟨_, rfl, rfl, rfl⟩
noncomputable def S_X3_both_2 (rc : Nat → sw_St → Int32 → Option (Int32 × sw_St)) (c2 : sw_St → Int32 → Int32 → Option (Int32 × sw_St)) (σ : sw_St) (x1 : Int32) (x2 : Int32) : Option (Int32 × sw_St) :=
  if (σ.1 2 1) < x2 then (some (0, σ)) else ((rc 2 σ x1).bind fun q1 => if q1.1 = 0 then (some (0, q1.2)) else (if x2 ≤ 0 then (S_X3_both_37 rc c2 q1.2 x1 x2) else ((q1.2.2.2 32 2).bind fun w2 => (if sw_isO sw_gX w2 0 = true then ((F_X0_emit q1.2 w2 10019).bind fun q3 => S_X3_both_37 rc c2 q3.2 x1 x2) else none))))
theorem SC_X3_both_2 {E : sw_E} {d : Nat} (hd : 7 ≤ d) {rc : Nat → sw_St → Int32 → Option (Int32 × sw_St)} {d0 : Nat} (hrc : sw_pgH E rc d0) (hd0 : d0 < d) {p : Int32 × sw_St} {c2 : sw_St → Int32 → Int32 → Option (Int32 × sw_St)} (h2 : ∀ (σ : sw_St) (x1 : Int32) (x2 : Int32), c2 σ x1 x2 = some p → sw_W E sw_gX m_X3_both d 2 [(0, .ref 32), (1, .int x1), (2, .int x2)] [] σ (sw_pI p)) {σ : sw_St} {x1 : Int32} {x2 : Int32} (h : S_X3_both_2 rc c2 σ x1 x2 = some p) : sw_W E sw_gX m_X3_both d 2 [(0, .ref 32), (1, .int x1), (2, .int x2)] [] σ (sw_pI p) := by
  unfold S_X3_both_2 at h
  refine B_X3_both_2  (fun hc => ?_) (fun hc => ?_)
  · rw [if_pos hc] at h
    cases h
    exact B_X3_both_65  ⟨_, rfl, rfl, rfl⟩
  · rw [if_neg hc] at h
    obtain ⟨q1, hq, h⟩ := sw_bnd h
    refine B_X3_both_13  (hrc.2.2.1 _ _ _ hq) hd0 (fun v s hvs => ?_)
    obtain ⟨hv1, hv2⟩ := hvs; subst hv1; subst hv2
    refine B_X3_both_18  (fun hc => ?_) (fun hc => ?_)
    · rw [if_neg hc] at h
      refine B_X3_both_23  (fun hc => ?_) (fun hc => ?_)
      · rw [if_pos hc] at h
        exact SC_X3_both_37 hd hrc hd0 h2 h
      · rw [if_neg hc] at h
        obtain ⟨w2, ow2, h⟩ := sw_bnd h
        obtain ⟨o4, h⟩ := sw_ifs h
        obtain ⟨q3, hq, h⟩ := sw_bnd h
        refine B_X3_both_27 ow2 (FC_X0_emit (Nat.le_refl _) hq) (Nat.lt_of_lt_of_le (by decide) hd) (fun s hvs => ?_) o4
        subst hvs
        exact SC_X3_both_37 hd hrc hd0 h2 h
    · rw [if_pos hc] at h
      cases h
      exact B_X3_both_21  ⟨_, rfl, rfl, rfl⟩
noncomputable def L_X3_both_2 (rc : Nat → sw_St → Int32 → Option (Int32 × sw_St)) : Nat → sw_St → Int32 → Int32 → Option (Int32 × sw_St)
  | 0, _, _, _ => none
  | k + 1, σ, x1, x2 => S_X3_both_2 rc (fun σ x1 x2 => L_X3_both_2 rc k σ x1 x2) σ x1 x2
theorem LC_X3_both_2 {E : sw_E} {d : Nat} (hd : 7 ≤ d) {rc : Nat → sw_St → Int32 → Option (Int32 × sw_St)} {d0 : Nat} (hrc : sw_pgH E rc d0) (hd0 : d0 < d) {p : Int32 × sw_St} : ∀ (k : Nat) (σ : sw_St) (x1 : Int32) (x2 : Int32), L_X3_both_2 rc k σ x1 x2 = some p → sw_W E sw_gX m_X3_both d 2 [(0, .ref 32), (1, .int x1), (2, .int x2)] [] σ (sw_pI p) := by
  intro k
  induction k with
  | zero => intro σ x1 x2 h; cases h
  | succ k ih => intro σ x1 x2 h; exact SC_X3_both_2 hd hrc hd0 ih h
noncomputable def F_X3_both (rc : Nat → sw_St → Int32 → Option (Int32 × sw_St)) (σ : sw_St) (x1 : Int32) : Option (Int32 × sw_St) :=
  L_X3_both_2 rc sw_fuel σ x1 0
theorem FC_X3_both {E : sw_E} {d : Nat} (hd : 7 ≤ d) {rc : Nat → sw_St → Int32 → Option (Int32 × sw_St)} {d0 : Nat} (hrc : sw_pgH E rc d0) (hd0 : d0 < d) {p : Int32 × sw_St} {σ : sw_St} {x1 : Int32} (h : F_X3_both rc σ x1 = some p) : sw_KI E sw_gX m_X3_both d [.ref 32, .int x1] σ (fun v s => v = p.1 ∧ s = p.2) := by
  unfold F_X3_both at h
  refine sw_K.of (by decide +kernel) rfl (Nat.le_of_ble_eq_true rfl) ?_
  show sw_W E sw_gX m_X3_both d 0 [(0, .ref 32), (1, .int x1)] [] σ (sw_pI p)
  refine B_X3_both_0  ?_
  exact LC_X3_both_2 hd hrc hd0 _ _ _ _ h
/-! StrayWool$Parser.fact(I)Z -/
noncomputable def S_X3_fact_107 (rc : Nat → sw_St → Int32 → Option (Int32 × sw_St)) (σ : sw_St) (sx0 : Int32) : Option (Int32 × sw_St) :=
  if sx0 = 0 ∨ sx0 = 1 then some (sx0, σ) else none
theorem SC_X3_fact_107 {E : sw_E} {d : Nat} (hd : 7 ≤ d) {rc : Nat → sw_St → Int32 → Option (Int32 × sw_St)} {d0 : Nat} (hrc : sw_pgH E rc d0) (hd0 : d0 < d) {p : Int32 × sw_St} {σ : sw_St} {sx0 : Int32} (h : S_X3_fact_107 rc σ sx0 = some p) : sw_W E sw_gX m_X3_fact d 107 [] [.int sx0] σ (sw_pI p) := by
  unfold S_X3_fact_107 at h
  obtain ⟨hz, h⟩ := sw_ifs h
  cases h
  exact B_X3_fact_107  hz ⟨_, rfl, rfl, rfl⟩
noncomputable def S_X3_fact_106 (rc : Nat → sw_St → Int32 → Option (Int32 × sw_St)) (σ : sw_St) : Option (Int32 × sw_St) :=
  S_X3_fact_107 rc σ 0
theorem SC_X3_fact_106 {E : sw_E} {d : Nat} (hd : 7 ≤ d) {rc : Nat → sw_St → Int32 → Option (Int32 × sw_St)} {d0 : Nat} (hrc : sw_pgH E rc d0) (hd0 : d0 < d) {p : Int32 × sw_St} {σ : sw_St} (h : S_X3_fact_106 rc σ  = some p) : sw_W E sw_gX m_X3_fact d 106 [] [] σ (sw_pI p) := by
  unfold S_X3_fact_106 at h
  refine B_X3_fact_106  ?_
  exact SC_X3_fact_107 hd hrc hd0 h
noncomputable def S_X3_fact_58 (rc : Nat → sw_St → Int32 → Option (Int32 × sw_St)) (σ : sw_St) : Option (Int32 × sw_St) :=
  some (0, σ)
theorem SC_X3_fact_58 {E : sw_E} {d : Nat} (hd : 7 ≤ d) {rc : Nat → sw_St → Int32 → Option (Int32 × sw_St)} {d0 : Nat} (hrc : sw_pgH E rc d0) (hd0 : d0 < d) {p : Int32 × sw_St} {σ : sw_St} (h : S_X3_fact_58 rc σ  = some p) : sw_W E sw_gX m_X3_fact d 58 [] [] σ (sw_pI p) := by
  unfold S_X3_fact_58 at h
  cases h
  exact B_X3_fact_58  ⟨_, rfl, rfl, rfl⟩
noncomputable def F_X3_fact (rc : Nat → sw_St → Int32 → Option (Int32 × sw_St)) (σ : sw_St) (x1 : Int32) : Option (Int32 × sw_St) :=
  if (σ.1 2 2) = 91 then ((F_X3_opens σ x1).bind fun q1 => if q1.1 = 0 then (S_X3_fact_106 rc q1.2 ) else ((rc 0 q1.2 (x1 + 1)).bind fun q2 => if q2.1 = 0 then (S_X3_fact_106 rc q2.2 ) else ((F_X6_expect q2.2 93).bind fun q3 => if q3.1 = 0 then (S_X3_fact_106 rc q3.2 ) else (S_X3_fact_107 rc q3.2 1)))) else if (σ.1 2 2) = 277 then ((F_X3_opens σ x1).bind fun q4 => if q4.1 = 0 then (S_X3_fact_58 rc q4.2 ) else ((rc 2 q4.2 (x1 + 1)).bind fun q5 => if q5.1 = 0 then (S_X3_fact_58 rc q5.2 ) else ((q5.2.2.2 32 2).bind fun w6 => (if sw_isO sw_gX w6 0 = true then ((F_X0_emit q5.2 w6 10021).bind fun q7 => some (1, q7.2)) else none)))) else if (σ.1 2 2) = 278 then ((σ.2.2 32 2).bind fun w9 => (if sw_isO sw_gX w9 0 = true then ((F_X0_emit σ w9 1).bind fun q10 => (F_X6_advance q10.2 ).bind fun q12 => some (1, q12.2)) else none)) else ((rc 3 σ x1).bind fun q13 => if q13.1 = 0 then (some (0, q13.2)) else ((F_X3_signCode q13.2 (q13.2.1 2 2)).bind fun q14 => if q14.1 = (-1) then ((F_X6_fail q14.2 1 (q14.2.1 2 3)).bind fun q20 => if q20.1 = 0 ∨ q20.1 = 1 then some (q20.1, q20.2) else none) else ((F_X6_advance q14.2 ).bind fun q15 => (rc 3 q15.2 x1).bind fun q16 => if q16.1 = 0 then (some (0, q16.2)) else ((q16.2.2.2 32 2).bind fun w17 => (if sw_isO sw_gX w17 0 = true then ((F_X0_emit q16.2 w17 q14.1).bind fun q18 => some (1, q18.2)) else none)))))
theorem FC_X3_fact {E : sw_E} {d : Nat} (hd : 7 ≤ d) {rc : Nat → sw_St → Int32 → Option (Int32 × sw_St)} {d0 : Nat} (hrc : sw_pgH E rc d0) (hd0 : d0 < d) {p : Int32 × sw_St} {σ : sw_St} {x1 : Int32} (h : F_X3_fact rc σ x1 = some p) : sw_KI E sw_gX m_X3_fact d [.ref 32, .int x1] σ (fun v s => v = p.1 ∧ s = p.2) := by
  unfold F_X3_fact at h
  refine sw_K.of (by decide +kernel) rfl (Nat.le_of_ble_eq_true rfl) ?_
  show sw_W E sw_gX m_X3_fact d 0 [(0, .ref 32), (1, .int x1)] [] σ (sw_pI p)
  refine B_X3_fact_0  (fun hc => ?_) (fun hc => ?_) (fun hc => ?_) (fun n0 n1 n2 => ?_)
  · rw [if_pos hc] at h
    obtain ⟨q1, hq, h⟩ := sw_bnd h
    refine B_X3_fact_72  (FC_X3_opens (Nat.le_refl _) hq) (Nat.lt_of_lt_of_le (by decide) hd) (fun v s hvs => ?_)
    obtain ⟨hv1, hv2⟩ := hvs; subst hv1; subst hv2
    refine B_X3_fact_77  (fun hc => ?_) (fun hc => ?_)
    · rw [if_pos hc] at h
      exact SC_X3_fact_106 hd hrc hd0 h
    · rw [if_neg hc] at h
      obtain ⟨q2, hq, h⟩ := sw_bnd h
      refine B_X3_fact_80  (hrc.1 _ _ _ hq) hd0 (fun v s hvs => ?_)
      obtain ⟨hv1, hv2⟩ := hvs; subst hv1; subst hv2
      refine B_X3_fact_87  (fun hc => ?_) (fun hc => ?_)
      · rw [if_pos hc] at h
        exact SC_X3_fact_106 hd hrc hd0 h
      · rw [if_neg hc] at h
        obtain ⟨q3, hq, h⟩ := sw_bnd h
        refine B_X3_fact_90  (FC_X6_expect (Nat.le_refl _) hq) (Nat.lt_of_lt_of_le (by decide) hd) (fun v s hvs => ?_)
        obtain ⟨hv1, hv2⟩ := hvs; subst hv1; subst hv2
        refine B_X3_fact_99  (fun hc => ?_) (fun hc => ?_)
        · rw [if_pos hc] at h
          exact SC_X3_fact_106 hd hrc hd0 h
        · rw [if_neg hc] at h
          refine B_X3_fact_102  ?_
          exact SC_X3_fact_107 hd hrc hd0 h
  · rw [if_neg (fun z => absurd (hc.symm.trans z) (by decide)), if_pos hc] at h
    obtain ⟨q4, hq, h⟩ := sw_bnd h
    refine B_X3_fact_40  (FC_X3_opens (Nat.le_refl _) hq) (Nat.lt_of_lt_of_le (by decide) hd) (fun v s hvs => ?_)
    obtain ⟨hv1, hv2⟩ := hvs; subst hv1; subst hv2
    refine B_X3_fact_45  (fun hc => ?_) (fun hc => ?_)
    · rw [if_pos hc] at h
      exact SC_X3_fact_58 hd hrc hd0 h
    · rw [if_neg hc] at h
      obtain ⟨q5, hq, h⟩ := sw_bnd h
      refine B_X3_fact_48  (hrc.2.2.1 _ _ _ hq) hd0 (fun v s hvs => ?_)
      obtain ⟨hv1, hv2⟩ := hvs; subst hv1; subst hv2
      refine B_X3_fact_55  (fun hc => ?_) (fun hc => ?_)
      · rw [if_neg hc] at h
        obtain ⟨w6, ow6, h⟩ := sw_bnd h
        obtain ⟨o8, h⟩ := sw_ifs h
        obtain ⟨q7, hq, h⟩ := sw_bnd h
        refine B_X3_fact_60 ow6 (FC_X0_emit (Nat.le_refl _) hq) (Nat.lt_of_lt_of_le (by decide) hd) (fun s hvs => ?_) o8
        subst hvs
        cases h
        exact B_X3_fact_70  ⟨_, rfl, rfl, rfl⟩
      · rw [if_pos hc] at h
        exact SC_X3_fact_58 hd hrc hd0 h
  · rw [if_neg (fun z => absurd (hc.symm.trans z) (by decide)), if_neg (fun z => absurd (hc.symm.trans z) (by decide)), if_pos hc] at h
    obtain ⟨w9, ow9, h⟩ := sw_bnd h
    obtain ⟨o11, h⟩ := sw_ifs h
    obtain ⟨q10, hq, h⟩ := sw_bnd h
    refine B_X3_fact_108 ow9 (FC_X0_emit (Nat.le_refl _) hq) (Nat.lt_of_lt_of_le (by decide) hd) (fun s hvs => ?_) o11
    subst hvs
    obtain ⟨q12, hq, h⟩ := sw_bnd h
    refine B_X3_fact_116  (FC_X6_advance (Nat.le_refl _) hq) (Nat.lt_of_lt_of_le (by decide) hd) (fun s hvs => ?_)
    subst hvs
    cases h
    exact B_X3_fact_123  ⟨_, rfl, rfl, rfl⟩
  · rw [if_neg n0, if_neg n1, if_neg n2] at h
    obtain ⟨q13, hq, h⟩ := sw_bnd h
    refine B_X3_fact_125  (hrc.2.2.2.1 _ _ _ hq) hd0 (fun v s hvs => ?_)
    obtain ⟨hv1, hv2⟩ := hvs; subst hv1; subst hv2
    refine B_X3_fact_130  (fun hc => ?_) (fun hc => ?_)
    · rw [if_neg hc] at h
      obtain ⟨q14, hq, h⟩ := sw_bnd h
      refine B_X3_fact_135  (FC_X3_signCode (Nat.le_refl _) hq) (Nat.lt_of_lt_of_le (by decide) hd) (fun v s hvs => ?_)
      obtain ⟨hv1, hv2⟩ := hvs; subst hv1; subst hv2
      refine B_X3_fact_145  (fun hc => ?_) (fun hc => ?_)
      · rw [if_neg hc] at h
        obtain ⟨q15, hq, h⟩ := sw_bnd h
        refine B_X3_fact_167  (FC_X6_advance (Nat.le_refl _) hq) (Nat.lt_of_lt_of_le (by decide) hd) (fun s hvs => ?_)
        subst hvs
        obtain ⟨q16, hq, h⟩ := sw_bnd h
        refine B_X3_fact_174  (hrc.2.2.2.1 _ _ _ hq) hd0 (fun v s hvs => ?_)
        obtain ⟨hv1, hv2⟩ := hvs; subst hv1; subst hv2
        refine B_X3_fact_179  (fun hc => ?_) (fun hc => ?_)
        · rw [if_neg hc] at h
          obtain ⟨w17, ow17, h⟩ := sw_bnd h
          obtain ⟨o19, h⟩ := sw_ifs h
          obtain ⟨q18, hq, h⟩ := sw_bnd h
          refine B_X3_fact_184 ow17 (FC_X0_emit (Nat.le_refl _) hq) (Nat.lt_of_lt_of_le (by decide) hd) (fun s hvs => ?_) o19
          subst hvs
          cases h
          exact B_X3_fact_192  ⟨_, rfl, rfl, rfl⟩
        · rw [if_pos hc] at h
          cases h
          exact B_X3_fact_182  ⟨_, rfl, rfl, rfl⟩
      · rw [if_pos hc] at h
        obtain ⟨q20, hq, h⟩ := sw_bnd h
        refine B_X3_fact_151  (FC_X6_fail (Nat.le_refl _) hq) (Nat.lt_of_lt_of_le (by decide) hd) (fun v s hvs => ?_)
        obtain ⟨hv1, hv2⟩ := hvs; subst hv1; subst hv2
        obtain ⟨hz, h⟩ := sw_ifs h
        cases h
        exact B_X3_fact_166  hz ⟨_, rfl, rfl, rfl⟩
    · rw [if_pos hc] at h
      cases h
      exact B_X3_fact_133  ⟨_, rfl, rfl, rfl⟩
/-! StrayWool$Parser.sum(I)Z -/
noncomputable def S_X3_sum_85 (rc : Nat → sw_St → Int32 → Option (Int32 × sw_St)) (c4 : sw_St → Int32 → Int32 → Int32 → Option (Int32 × sw_St)) (σ : sw_St) (x1 : Int32) (x3 : Int32) (sx0 : Int32) : Option (Int32 × sw_St) :=
  (F_X6_advance σ ).bind fun q1 => c4 q1.2 x1 sx0 (x3 + 1)
theorem SC_X3_sum_85 {E : sw_E} {d : Nat} (hd : 7 ≤ d) {rc : Nat → sw_St → Int32 → Option (Int32 × sw_St)} {d0 : Nat} (hrc : sw_pgH E rc d0) (hd0 : d0 < d) {p : Int32 × sw_St} {c4 : sw_St → Int32 → Int32 → Int32 → Option (Int32 × sw_St)} (h4 : ∀ (σ : sw_St) (x1 : Int32) (x2 : Int32) (x3 : Int32), c4 σ x1 x2 x3 = some p → sw_W E sw_gX m_X3_sum d 4 [(0, .ref 32), (1, .int x1), (2, .int x2), (3, .int x3)] [] σ (sw_pI p)) {σ : sw_St} {x1 : Int32} {x3 : Int32} {sx0 : Int32} (h : S_X3_sum_85 rc c4 σ x1 x3 sx0 = some p) : sw_W E sw_gX m_X3_sum d 85 [(0, .ref 32), (1, .int x1), (3, .int x3)] [.int sx0] σ (sw_pI p) := by
  unfold S_X3_sum_85 at h
  obtain ⟨q1, hq, h⟩ := sw_bnd h
  refine B_X3_sum_85  (FC_X6_advance (Nat.le_refl _) hq) (Nat.lt_of_lt_of_le (by decide) hd) (fun s hvs => ?_)
  subst hvs
  refine B_X3_sum_93  ?_
  exact h4 _ _ _ _ h
noncomputable def S_X3_sum_64 (rc : Nat → sw_St → Int32 → Option (Int32 × sw_St)) (c4 : sw_St → Int32 → Int32 → Int32 → Option (Int32 × sw_St)) (σ : sw_St) (x1 : Int32) (x3 : Int32) : Option (Int32 × sw_St) :=
  if (σ.1 2 2) = 43 then (S_X3_sum_85 rc c4 σ x1 x3 10010) else (S_X3_sum_85 rc c4 σ x1 x3 10011)
theorem SC_X3_sum_64 {E : sw_E} {d : Nat} (hd : 7 ≤ d) {rc : Nat → sw_St → Int32 → Option (Int32 × sw_St)} {d0 : Nat} (hrc : sw_pgH E rc d0) (hd0 : d0 < d) {p : Int32 × sw_St} {c4 : sw_St → Int32 → Int32 → Int32 → Option (Int32 × sw_St)} (h4 : ∀ (σ : sw_St) (x1 : Int32) (x2 : Int32) (x3 : Int32), c4 σ x1 x2 x3 = some p → sw_W E sw_gX m_X3_sum d 4 [(0, .ref 32), (1, .int x1), (2, .int x2), (3, .int x3)] [] σ (sw_pI p)) {σ : sw_St} {x1 : Int32} {x3 : Int32} (h : S_X3_sum_64 rc c4 σ x1 x3 = some p) : sw_W E sw_gX m_X3_sum d 64 [(0, .ref 32), (1, .int x1), (3, .int x3)] [] σ (sw_pI p) := by
  unfold S_X3_sum_64 at h
  refine B_X3_sum_64  (fun hc => ?_) (fun hc => ?_)
  · rw [if_neg hc] at h
    refine B_X3_sum_82  ?_
    exact SC_X3_sum_85 hd hrc hd0 h4 h
  · rw [if_pos hc] at h
    refine B_X3_sum_76  ?_
    exact SC_X3_sum_85 hd hrc hd0 h4 h
noncomputable def S_X3_sum_38 (rc : Nat → sw_St → Int32 → Option (Int32 × sw_St)) (c4 : sw_St → Int32 → Int32 → Int32 → Option (Int32 × sw_St)) (σ : sw_St) (x1 : Int32) (x3 : Int32) : Option (Int32 × sw_St) :=
  if (σ.1 2 2) = 43 then (S_X3_sum_64 rc c4 σ x1 x3) else (if (σ.1 2 2) = 45 then (S_X3_sum_64 rc c4 σ x1 x3) else (some (1, σ)))
theorem SC_X3_sum_38 {E : sw_E} {d : Nat} (hd : 7 ≤ d) {rc : Nat → sw_St → Int32 → Option (Int32 × sw_St)} {d0 : Nat} (hrc : sw_pgH E rc d0) (hd0 : d0 < d) {p : Int32 × sw_St} {c4 : sw_St → Int32 → Int32 → Int32 → Option (Int32 × sw_St)} (h4 : ∀ (σ : sw_St) (x1 : Int32) (x2 : Int32) (x3 : Int32), c4 σ x1 x2 x3 = some p → sw_W E sw_gX m_X3_sum d 4 [(0, .ref 32), (1, .int x1), (2, .int x2), (3, .int x3)] [] σ (sw_pI p)) {σ : sw_St} {x1 : Int32} {x3 : Int32} (h : S_X3_sum_38 rc c4 σ x1 x3 = some p) : sw_W E sw_gX m_X3_sum d 38 [(0, .ref 32), (1, .int x1), (3, .int x3)] [] σ (sw_pI p) := by
  unfold S_X3_sum_38 at h
  refine B_X3_sum_38  (fun hc => ?_) (fun hc => ?_)
  · rw [if_pos hc] at h
    exact SC_X3_sum_64 hd hrc hd0 h4 h
  · rw [if_neg hc] at h
    refine B_X3_sum_50  (fun hc => ?_) (fun hc => ?_)
    · rw [if_pos hc] at h
      exact SC_X3_sum_64 hd hrc hd0 h4 h
    · rw [if_neg hc] at h
      cases h
      exact B_X3_sum_62  ⟨_, rfl, rfl, rfl⟩
noncomputable def S_X3_sum_4 (rc : Nat → sw_St → Int32 → Option (Int32 × sw_St)) (c4 : sw_St → Int32 → Int32 → Int32 → Option (Int32 × sw_St)) (σ : sw_St) (x1 : Int32) (x2 : Int32) (x3 : Int32) : Option (Int32 × sw_St) :=
  if (σ.1 2 1) < x3 then (some (0, σ)) else ((rc 4 σ x1).bind fun q1 => if q1.1 = 0 then (some (0, q1.2)) else (if x2 = (-1) then (S_X3_sum_38 rc c4 q1.2 x1 x3) else ((q1.2.2.2 32 2).bind fun w2 => (if sw_isO sw_gX w2 0 = true then ((F_X0_emit q1.2 w2 x2).bind fun q3 => S_X3_sum_38 rc c4 q3.2 x1 x3) else none))))
theorem SC_X3_sum_4 {E : sw_E} {d : Nat} (hd : 7 ≤ d) {rc : Nat → sw_St → Int32 → Option (Int32 × sw_St)} {d0 : Nat} (hrc : sw_pgH E rc d0) (hd0 : d0 < d) {p : Int32 × sw_St} {c4 : sw_St → Int32 → Int32 → Int32 → Option (Int32 × sw_St)} (h4 : ∀ (σ : sw_St) (x1 : Int32) (x2 : Int32) (x3 : Int32), c4 σ x1 x2 x3 = some p → sw_W E sw_gX m_X3_sum d 4 [(0, .ref 32), (1, .int x1), (2, .int x2), (3, .int x3)] [] σ (sw_pI p)) {σ : sw_St} {x1 : Int32} {x2 : Int32} {x3 : Int32} (h : S_X3_sum_4 rc c4 σ x1 x2 x3 = some p) : sw_W E sw_gX m_X3_sum d 4 [(0, .ref 32), (1, .int x1), (2, .int x2), (3, .int x3)] [] σ (sw_pI p) := by
  unfold S_X3_sum_4 at h
  refine B_X3_sum_4  (fun hc => ?_) (fun hc => ?_)
  · rw [if_pos hc] at h
    cases h
    exact B_X3_sum_99  ⟨_, rfl, rfl, rfl⟩
  · rw [if_neg hc] at h
    obtain ⟨q1, hq, h⟩ := sw_bnd h
    refine B_X3_sum_15  (hrc.2.2.2.2.1 _ _ _ hq) hd0 (fun v s hvs => ?_)
    obtain ⟨hv1, hv2⟩ := hvs; subst hv1; subst hv2
    refine B_X3_sum_20  (fun hc => ?_) (fun hc => ?_)
    · rw [if_neg hc] at h
      refine B_X3_sum_25  (fun hc => ?_) (fun hc => ?_)
      · rw [if_pos hc] at h
        exact SC_X3_sum_38 hd hrc hd0 h4 h
      · rw [if_neg hc] at h
        obtain ⟨w2, ow2, h⟩ := sw_bnd h
        obtain ⟨o4, h⟩ := sw_ifs h
        obtain ⟨q3, hq, h⟩ := sw_bnd h
        refine B_X3_sum_30 ow2 (FC_X0_emit (Nat.le_refl _) hq) (Nat.lt_of_lt_of_le (by decide) hd) (fun s hvs => ?_) o4
        subst hvs
        exact SC_X3_sum_38 hd hrc hd0 h4 h
    · rw [if_pos hc] at h
      cases h
      exact B_X3_sum_23  ⟨_, rfl, rfl, rfl⟩
noncomputable def L_X3_sum_4 (rc : Nat → sw_St → Int32 → Option (Int32 × sw_St)) : Nat → sw_St → Int32 → Int32 → Int32 → Option (Int32 × sw_St)
  | 0, _, _, _, _ => none
  | k + 1, σ, x1, x2, x3 => S_X3_sum_4 rc (fun σ x1 x2 x3 => L_X3_sum_4 rc k σ x1 x2 x3) σ x1 x2 x3
theorem LC_X3_sum_4 {E : sw_E} {d : Nat} (hd : 7 ≤ d) {rc : Nat → sw_St → Int32 → Option (Int32 × sw_St)} {d0 : Nat} (hrc : sw_pgH E rc d0) (hd0 : d0 < d) {p : Int32 × sw_St} : ∀ (k : Nat) (σ : sw_St) (x1 : Int32) (x2 : Int32) (x3 : Int32), L_X3_sum_4 rc k σ x1 x2 x3 = some p → sw_W E sw_gX m_X3_sum d 4 [(0, .ref 32), (1, .int x1), (2, .int x2), (3, .int x3)] [] σ (sw_pI p) := by
  intro k
  induction k with
  | zero => intro σ x1 x2 x3 h; cases h
  | succ k ih => intro σ x1 x2 x3 h; exact SC_X3_sum_4 hd hrc hd0 ih h
noncomputable def F_X3_sum (rc : Nat → sw_St → Int32 → Option (Int32 × sw_St)) (σ : sw_St) (x1 : Int32) : Option (Int32 × sw_St) :=
  L_X3_sum_4 rc sw_fuel σ x1 (-1) 0
theorem FC_X3_sum {E : sw_E} {d : Nat} (hd : 7 ≤ d) {rc : Nat → sw_St → Int32 → Option (Int32 × sw_St)} {d0 : Nat} (hrc : sw_pgH E rc d0) (hd0 : d0 < d) {p : Int32 × sw_St} {σ : sw_St} {x1 : Int32} (h : F_X3_sum rc σ x1 = some p) : sw_KI E sw_gX m_X3_sum d [.ref 32, .int x1] σ (fun v s => v = p.1 ∧ s = p.2) := by
  unfold F_X3_sum at h
  refine sw_K.of (by decide +kernel) rfl (Nat.le_of_ble_eq_true rfl) ?_
  show sw_W E sw_gX m_X3_sum d 0 [(0, .ref 32), (1, .int x1)] [] σ (sw_pI p)
  refine B_X3_sum_0  ?_
  exact LC_X3_sum_4 hd hrc hd0 _ _ _ _ _ h
/-! StrayWool$Parser.product(I)Z -/
noncomputable def S_X3_product_85 (rc : Nat → sw_St → Int32 → Option (Int32 × sw_St)) (c4 : sw_St → Int32 → Int32 → Int32 → Option (Int32 × sw_St)) (σ : sw_St) (x1 : Int32) (x3 : Int32) (sx0 : Int32) : Option (Int32 × sw_St) :=
  (F_X6_advance σ ).bind fun q1 => c4 q1.2 x1 sx0 (x3 + 1)
theorem SC_X3_product_85 {E : sw_E} {d : Nat} (hd : 7 ≤ d) {rc : Nat → sw_St → Int32 → Option (Int32 × sw_St)} {d0 : Nat} (hrc : sw_pgH E rc d0) (hd0 : d0 < d) {p : Int32 × sw_St} {c4 : sw_St → Int32 → Int32 → Int32 → Option (Int32 × sw_St)} (h4 : ∀ (σ : sw_St) (x1 : Int32) (x2 : Int32) (x3 : Int32), c4 σ x1 x2 x3 = some p → sw_W E sw_gX m_X3_product d 4 [(0, .ref 32), (1, .int x1), (2, .int x2), (3, .int x3)] [] σ (sw_pI p)) {σ : sw_St} {x1 : Int32} {x3 : Int32} {sx0 : Int32} (h : S_X3_product_85 rc c4 σ x1 x3 sx0 = some p) : sw_W E sw_gX m_X3_product d 85 [(0, .ref 32), (1, .int x1), (3, .int x3)] [.int sx0] σ (sw_pI p) := by
  unfold S_X3_product_85 at h
  obtain ⟨q1, hq, h⟩ := sw_bnd h
  refine B_X3_product_85  (FC_X6_advance (Nat.le_refl _) hq) (Nat.lt_of_lt_of_le (by decide) hd) (fun s hvs => ?_)
  subst hvs
  refine B_X3_product_93  ?_
  exact h4 _ _ _ _ h
noncomputable def S_X3_product_64 (rc : Nat → sw_St → Int32 → Option (Int32 × sw_St)) (c4 : sw_St → Int32 → Int32 → Int32 → Option (Int32 × sw_St)) (σ : sw_St) (x1 : Int32) (x3 : Int32) : Option (Int32 × sw_St) :=
  if (σ.1 2 2) = 42 then (S_X3_product_85 rc c4 σ x1 x3 10012) else (S_X3_product_85 rc c4 σ x1 x3 10013)
theorem SC_X3_product_64 {E : sw_E} {d : Nat} (hd : 7 ≤ d) {rc : Nat → sw_St → Int32 → Option (Int32 × sw_St)} {d0 : Nat} (hrc : sw_pgH E rc d0) (hd0 : d0 < d) {p : Int32 × sw_St} {c4 : sw_St → Int32 → Int32 → Int32 → Option (Int32 × sw_St)} (h4 : ∀ (σ : sw_St) (x1 : Int32) (x2 : Int32) (x3 : Int32), c4 σ x1 x2 x3 = some p → sw_W E sw_gX m_X3_product d 4 [(0, .ref 32), (1, .int x1), (2, .int x2), (3, .int x3)] [] σ (sw_pI p)) {σ : sw_St} {x1 : Int32} {x3 : Int32} (h : S_X3_product_64 rc c4 σ x1 x3 = some p) : sw_W E sw_gX m_X3_product d 64 [(0, .ref 32), (1, .int x1), (3, .int x3)] [] σ (sw_pI p) := by
  unfold S_X3_product_64 at h
  refine B_X3_product_64  (fun hc => ?_) (fun hc => ?_)
  · rw [if_neg hc] at h
    refine B_X3_product_82  ?_
    exact SC_X3_product_85 hd hrc hd0 h4 h
  · rw [if_pos hc] at h
    refine B_X3_product_76  ?_
    exact SC_X3_product_85 hd hrc hd0 h4 h
noncomputable def S_X3_product_38 (rc : Nat → sw_St → Int32 → Option (Int32 × sw_St)) (c4 : sw_St → Int32 → Int32 → Int32 → Option (Int32 × sw_St)) (σ : sw_St) (x1 : Int32) (x3 : Int32) : Option (Int32 × sw_St) :=
  if (σ.1 2 2) = 42 then (S_X3_product_64 rc c4 σ x1 x3) else (if (σ.1 2 2) = 47 then (S_X3_product_64 rc c4 σ x1 x3) else (some (1, σ)))
theorem SC_X3_product_38 {E : sw_E} {d : Nat} (hd : 7 ≤ d) {rc : Nat → sw_St → Int32 → Option (Int32 × sw_St)} {d0 : Nat} (hrc : sw_pgH E rc d0) (hd0 : d0 < d) {p : Int32 × sw_St} {c4 : sw_St → Int32 → Int32 → Int32 → Option (Int32 × sw_St)} (h4 : ∀ (σ : sw_St) (x1 : Int32) (x2 : Int32) (x3 : Int32), c4 σ x1 x2 x3 = some p → sw_W E sw_gX m_X3_product d 4 [(0, .ref 32), (1, .int x1), (2, .int x2), (3, .int x3)] [] σ (sw_pI p)) {σ : sw_St} {x1 : Int32} {x3 : Int32} (h : S_X3_product_38 rc c4 σ x1 x3 = some p) : sw_W E sw_gX m_X3_product d 38 [(0, .ref 32), (1, .int x1), (3, .int x3)] [] σ (sw_pI p) := by
  unfold S_X3_product_38 at h
  refine B_X3_product_38  (fun hc => ?_) (fun hc => ?_)
  · rw [if_pos hc] at h
    exact SC_X3_product_64 hd hrc hd0 h4 h
  · rw [if_neg hc] at h
    refine B_X3_product_50  (fun hc => ?_) (fun hc => ?_)
    · rw [if_pos hc] at h
      exact SC_X3_product_64 hd hrc hd0 h4 h
    · rw [if_neg hc] at h
      cases h
      exact B_X3_product_62  ⟨_, rfl, rfl, rfl⟩
noncomputable def S_X3_product_4 (rc : Nat → sw_St → Int32 → Option (Int32 × sw_St)) (c4 : sw_St → Int32 → Int32 → Int32 → Option (Int32 × sw_St)) (σ : sw_St) (x1 : Int32) (x2 : Int32) (x3 : Int32) : Option (Int32 × sw_St) :=
  if (σ.1 2 1) < x3 then (some (0, σ)) else ((rc 5 σ x1).bind fun q1 => if q1.1 = 0 then (some (0, q1.2)) else (if x2 = (-1) then (S_X3_product_38 rc c4 q1.2 x1 x3) else ((q1.2.2.2 32 2).bind fun w2 => (if sw_isO sw_gX w2 0 = true then ((F_X0_emit q1.2 w2 x2).bind fun q3 => S_X3_product_38 rc c4 q3.2 x1 x3) else none))))
theorem SC_X3_product_4 {E : sw_E} {d : Nat} (hd : 7 ≤ d) {rc : Nat → sw_St → Int32 → Option (Int32 × sw_St)} {d0 : Nat} (hrc : sw_pgH E rc d0) (hd0 : d0 < d) {p : Int32 × sw_St} {c4 : sw_St → Int32 → Int32 → Int32 → Option (Int32 × sw_St)} (h4 : ∀ (σ : sw_St) (x1 : Int32) (x2 : Int32) (x3 : Int32), c4 σ x1 x2 x3 = some p → sw_W E sw_gX m_X3_product d 4 [(0, .ref 32), (1, .int x1), (2, .int x2), (3, .int x3)] [] σ (sw_pI p)) {σ : sw_St} {x1 : Int32} {x2 : Int32} {x3 : Int32} (h : S_X3_product_4 rc c4 σ x1 x2 x3 = some p) : sw_W E sw_gX m_X3_product d 4 [(0, .ref 32), (1, .int x1), (2, .int x2), (3, .int x3)] [] σ (sw_pI p) := by
  unfold S_X3_product_4 at h
  refine B_X3_product_4  (fun hc => ?_) (fun hc => ?_)
  · rw [if_pos hc] at h
    cases h
    exact B_X3_product_99  ⟨_, rfl, rfl, rfl⟩
  · rw [if_neg hc] at h
    obtain ⟨q1, hq, h⟩ := sw_bnd h
    refine B_X3_product_15  (hrc.2.2.2.2.2 _ _ _ hq) hd0 (fun v s hvs => ?_)
    obtain ⟨hv1, hv2⟩ := hvs; subst hv1; subst hv2
    refine B_X3_product_20  (fun hc => ?_) (fun hc => ?_)
    · rw [if_neg hc] at h
      refine B_X3_product_25  (fun hc => ?_) (fun hc => ?_)
      · rw [if_pos hc] at h
        exact SC_X3_product_38 hd hrc hd0 h4 h
      · rw [if_neg hc] at h
        obtain ⟨w2, ow2, h⟩ := sw_bnd h
        obtain ⟨o4, h⟩ := sw_ifs h
        obtain ⟨q3, hq, h⟩ := sw_bnd h
        refine B_X3_product_30 ow2 (FC_X0_emit (Nat.le_refl _) hq) (Nat.lt_of_lt_of_le (by decide) hd) (fun s hvs => ?_) o4
        subst hvs
        exact SC_X3_product_38 hd hrc hd0 h4 h
    · rw [if_pos hc] at h
      cases h
      exact B_X3_product_23  ⟨_, rfl, rfl, rfl⟩
noncomputable def L_X3_product_4 (rc : Nat → sw_St → Int32 → Option (Int32 × sw_St)) : Nat → sw_St → Int32 → Int32 → Int32 → Option (Int32 × sw_St)
  | 0, _, _, _, _ => none
  | k + 1, σ, x1, x2, x3 => S_X3_product_4 rc (fun σ x1 x2 x3 => L_X3_product_4 rc k σ x1 x2 x3) σ x1 x2 x3
theorem LC_X3_product_4 {E : sw_E} {d : Nat} (hd : 7 ≤ d) {rc : Nat → sw_St → Int32 → Option (Int32 × sw_St)} {d0 : Nat} (hrc : sw_pgH E rc d0) (hd0 : d0 < d) {p : Int32 × sw_St} : ∀ (k : Nat) (σ : sw_St) (x1 : Int32) (x2 : Int32) (x3 : Int32), L_X3_product_4 rc k σ x1 x2 x3 = some p → sw_W E sw_gX m_X3_product d 4 [(0, .ref 32), (1, .int x1), (2, .int x2), (3, .int x3)] [] σ (sw_pI p) := by
  intro k
  induction k with
  | zero => intro σ x1 x2 x3 h; cases h
  | succ k ih => intro σ x1 x2 x3 h; exact SC_X3_product_4 hd hrc hd0 ih h
noncomputable def F_X3_product (rc : Nat → sw_St → Int32 → Option (Int32 × sw_St)) (σ : sw_St) (x1 : Int32) : Option (Int32 × sw_St) :=
  L_X3_product_4 rc sw_fuel σ x1 (-1) 0
theorem FC_X3_product {E : sw_E} {d : Nat} (hd : 7 ≤ d) {rc : Nat → sw_St → Int32 → Option (Int32 × sw_St)} {d0 : Nat} (hrc : sw_pgH E rc d0) (hd0 : d0 < d) {p : Int32 × sw_St} {σ : sw_St} {x1 : Int32} (h : F_X3_product rc σ x1 = some p) : sw_KI E sw_gX m_X3_product d [.ref 32, .int x1] σ (fun v s => v = p.1 ∧ s = p.2) := by
  unfold F_X3_product at h
  refine sw_K.of (by decide +kernel) rfl (Nat.le_of_ble_eq_true rfl) ?_
  show sw_W E sw_gX m_X3_product d 0 [(0, .ref 32), (1, .int x1)] [] σ (sw_pI p)
  refine B_X3_product_0  ?_
  exact LC_X3_product_4 hd hrc hd0 _ _ _ _ _ h
/-! StrayWool$Parser.part(I)Z -/
noncomputable def S_X3_part_116 (rc : Nat → sw_St → Int32 → Option (Int32 × sw_St)) (σ : sw_St) (sx0 : Int32) : Option (Int32 × sw_St) :=
  if sx0 = 0 ∨ sx0 = 1 then some (sx0, σ) else none
theorem SC_X3_part_116 {E : sw_E} {d : Nat} (hd : 7 ≤ d) {rc : Nat → sw_St → Int32 → Option (Int32 × sw_St)} {d0 : Nat} (hrc : sw_pgH E rc d0) (hd0 : d0 < d) {p : Int32 × sw_St} {σ : sw_St} {sx0 : Int32} (h : S_X3_part_116 rc σ sx0 = some p) : sw_W E sw_gX m_X3_part d 116 [] [.int sx0] σ (sw_pI p) := by
  unfold S_X3_part_116 at h
  obtain ⟨hz, h⟩ := sw_ifs h
  cases h
  exact B_X3_part_116  hz ⟨_, rfl, rfl, rfl⟩
noncomputable def S_X3_part_115 (rc : Nat → sw_St → Int32 → Option (Int32 × sw_St)) (σ : sw_St) : Option (Int32 × sw_St) :=
  S_X3_part_116 rc σ 0
theorem SC_X3_part_115 {E : sw_E} {d : Nat} (hd : 7 ≤ d) {rc : Nat → sw_St → Int32 → Option (Int32 × sw_St)} {d0 : Nat} (hrc : sw_pgH E rc d0) (hd0 : d0 < d) {p : Int32 × sw_St} {σ : sw_St} (h : S_X3_part_115 rc σ  = some p) : sw_W E sw_gX m_X3_part d 115 [] [] σ (sw_pI p) := by
  unfold S_X3_part_115 at h
  refine B_X3_part_115  ?_
  exact SC_X3_part_116 hd hrc hd0 h
noncomputable def S_X3_part_204 (rc : Nat → sw_St → Int32 → Option (Int32 × sw_St)) (σ : sw_St) : Option (Int32 × sw_St) :=
  some (0, σ)
theorem SC_X3_part_204 {E : sw_E} {d : Nat} (hd : 7 ≤ d) {rc : Nat → sw_St → Int32 → Option (Int32 × sw_St)} {d0 : Nat} (hrc : sw_pgH E rc d0) (hd0 : d0 < d) {p : Int32 × sw_St} {σ : sw_St} (h : S_X3_part_204 rc σ  = some p) : sw_W E sw_gX m_X3_part d 204 [] [] σ (sw_pI p) := by
  unfold S_X3_part_204 at h
  cases h
  exact B_X3_part_204  ⟨_, rfl, rfl, rfl⟩
noncomputable def S_X3_part_226 (rc : Nat → sw_St → Int32 → Option (Int32 × sw_St)) (σ : sw_St) (sx0 : Int32) (so1 : Nat) : Option (Int32 × sw_St) :=
  if sw_isO sw_gX so1 0 = true then ((F_X0_emit σ so1 sx0).bind fun q1 => some (1, q1.2)) else none
theorem SC_X3_part_226 {E : sw_E} {d : Nat} (hd : 7 ≤ d) {rc : Nat → sw_St → Int32 → Option (Int32 × sw_St)} {d0 : Nat} (hrc : sw_pgH E rc d0) (hd0 : d0 < d) {p : Int32 × sw_St} {σ : sw_St} {sx0 : Int32} {so1 : Nat} (h : S_X3_part_226 rc σ sx0 so1 = some p) : sw_W E sw_gX m_X3_part d 226 [] [.int sx0, .ref so1] σ (sw_pI p) := by
  unfold S_X3_part_226 at h
  obtain ⟨o2, h⟩ := sw_ifs h
  obtain ⟨q1, hq, h⟩ := sw_bnd h
  refine B_X3_part_226  (FC_X0_emit (Nat.le_refl _) hq) (Nat.lt_of_lt_of_le (by decide) hd) (fun s hvs => ?_) o2
  subst hvs
  cases h
  exact B_X3_part_229  ⟨_, rfl, rfl, rfl⟩
noncomputable def S_X3_part_117 (rc : Nat → sw_St → Int32 → Option (Int32 × sw_St)) (σ : sw_St) (x1 : Int32) (x2 : Int32) : Option (Int32 × sw_St) :=
  (F_X6_advance σ ).bind fun q1 => if (q1.2.1 2 2) = 40 then ((F_X3_opens q1.2 x1).bind fun q2 => if q2.1 = 0 then (S_X3_part_204 rc q2.2 ) else ((rc 3 q2.2 (x1 + 1)).bind fun q3 => if q3.1 = 0 then (S_X3_part_204 rc q3.2 ) else ((F_X6_expect q3.2 44).bind fun q4 => if q4.1 = 0 then (S_X3_part_204 rc q4.2 ) else ((rc 3 q4.2 (x1 + 1)).bind fun q5 => if q5.1 = 0 then (S_X3_part_204 rc q5.2 ) else ((F_X6_expect q5.2 41).bind fun q6 => if q6.1 = 0 then (S_X3_part_204 rc q6.2 ) else ((q6.2.2.2 32 2).bind fun w7 => (if x2 = 279 then (S_X3_part_226 rc q6.2 10017 w7) else (S_X3_part_226 rc q6.2 10018 w7)))))))) else ((F_X6_fail q1.2 1 (q1.2.1 2 3)).bind fun q8 => if q8.1 = 0 ∨ q8.1 = 1 then some (q8.1, q8.2) else none)
theorem SC_X3_part_117 {E : sw_E} {d : Nat} (hd : 7 ≤ d) {rc : Nat → sw_St → Int32 → Option (Int32 × sw_St)} {d0 : Nat} (hrc : sw_pgH E rc d0) (hd0 : d0 < d) {p : Int32 × sw_St} {σ : sw_St} {x1 : Int32} {x2 : Int32} (h : S_X3_part_117 rc σ x1 x2 = some p) : sw_W E sw_gX m_X3_part d 117 [(0, .ref 32), (1, .int x1), (2, .int x2)] [] σ (sw_pI p) := by
  unfold S_X3_part_117 at h
  obtain ⟨q1, hq, h⟩ := sw_bnd h
  refine B_X3_part_117  (FC_X6_advance (Nat.le_refl _) hq) (Nat.lt_of_lt_of_le (by decide) hd) (fun s hvs => ?_)
  subst hvs
  refine B_X3_part_124  (fun hc => ?_) (fun hc => ?_)
  · rw [if_pos hc] at h
    obtain ⟨q2, hq, h⟩ := sw_bnd h
    refine B_X3_part_152  (FC_X3_opens (Nat.le_refl _) hq) (Nat.lt_of_lt_of_le (by decide) hd) (fun v s hvs => ?_)
    obtain ⟨hv1, hv2⟩ := hvs; subst hv1; subst hv2
    refine B_X3_part_157  (fun hc => ?_) (fun hc => ?_)
    · rw [if_pos hc] at h
      exact SC_X3_part_204 hd hrc hd0 h
    · rw [if_neg hc] at h
      obtain ⟨q3, hq, h⟩ := sw_bnd h
      refine B_X3_part_160  (hrc.2.2.2.1 _ _ _ hq) hd0 (fun v s hvs => ?_)
      obtain ⟨hv1, hv2⟩ := hvs; subst hv1; subst hv2
      refine B_X3_part_167  (fun hc => ?_) (fun hc => ?_)
      · rw [if_pos hc] at h
        exact SC_X3_part_204 hd hrc hd0 h
      · rw [if_neg hc] at h
        obtain ⟨q4, hq, h⟩ := sw_bnd h
        refine B_X3_part_170  (FC_X6_expect (Nat.le_refl _) hq) (Nat.lt_of_lt_of_le (by decide) hd) (fun v s hvs => ?_)
        obtain ⟨hv1, hv2⟩ := hvs; subst hv1; subst hv2
        refine B_X3_part_179  (fun hc => ?_) (fun hc => ?_)
        · rw [if_pos hc] at h
          exact SC_X3_part_204 hd hrc hd0 h
        · rw [if_neg hc] at h
          obtain ⟨q5, hq, h⟩ := sw_bnd h
          refine B_X3_part_182  (hrc.2.2.2.1 _ _ _ hq) hd0 (fun v s hvs => ?_)
          obtain ⟨hv1, hv2⟩ := hvs; subst hv1; subst hv2
          refine B_X3_part_189  (fun hc => ?_) (fun hc => ?_)
          · rw [if_pos hc] at h
            exact SC_X3_part_204 hd hrc hd0 h
          · rw [if_neg hc] at h
            obtain ⟨q6, hq, h⟩ := sw_bnd h
            refine B_X3_part_192  (FC_X6_expect (Nat.le_refl _) hq) (Nat.lt_of_lt_of_le (by decide) hd) (fun v s hvs => ?_)
            obtain ⟨hv1, hv2⟩ := hvs; subst hv1; subst hv2
            refine B_X3_part_201  (fun hc => ?_) (fun hc => ?_)
            · rw [if_neg hc] at h
              obtain ⟨w7, ow7, h⟩ := sw_bnd h
              refine B_X3_part_206 ow7 (fun hc => ?_) (fun hc => ?_)
              · rw [if_neg hc] at h
                refine B_X3_part_223  ?_
                exact SC_X3_part_226 hd hrc hd0 h
              · rw [if_pos hc] at h
                refine B_X3_part_217  ?_
                exact SC_X3_part_226 hd hrc hd0 h
            · rw [if_pos hc] at h
              exact SC_X3_part_204 hd hrc hd0 h
  · rw [if_neg hc] at h
    obtain ⟨q8, hq, h⟩ := sw_bnd h
    refine B_X3_part_136  (FC_X6_fail (Nat.le_refl _) hq) (Nat.lt_of_lt_of_le (by decide) hd) (fun v s hvs => ?_)
    obtain ⟨hv1, hv2⟩ := hvs; subst hv1; subst hv2
    obtain ⟨hz, h⟩ := sw_ifs h
    cases h
    exact B_X3_part_151  hz ⟨_, rfl, rfl, rfl⟩
noncomputable def S_X3_part_298 (rc : Nat → sw_St → Int32 → Option (Int32 × sw_St)) (σ : sw_St) (x2 : Int32) : Option (Int32 × sw_St) :=
  (F_X3_variableOf σ x2 (σ.1 32 3)).bind fun q1 => if q1.1 = (-1) then ((F_X6_fail q1.2 1 (q1.2.1 2 3)).bind fun q6 => if q6.1 = 0 ∨ q6.1 = 1 then some (q6.1, q6.2) else none) else ((q1.2.2.2 32 2).bind fun w2 => (if sw_isO sw_gX w2 0 = true then ((F_X0_emit q1.2 w2 (10000 + q1.1)).bind fun q3 => (F_X6_advance q3.2 ).bind fun q5 => some (1, q5.2)) else none))
theorem SC_X3_part_298 {E : sw_E} {d : Nat} (hd : 7 ≤ d) {rc : Nat → sw_St → Int32 → Option (Int32 × sw_St)} {d0 : Nat} (hrc : sw_pgH E rc d0) (hd0 : d0 < d) {p : Int32 × sw_St} {σ : sw_St} {x2 : Int32} (h : S_X3_part_298 rc σ x2 = some p) : sw_W E sw_gX m_X3_part d 298 [(0, .ref 32), (2, .int x2)] [] σ (sw_pI p) := by
  unfold S_X3_part_298 at h
  obtain ⟨q1, hq, h⟩ := sw_bnd h
  refine B_X3_part_298  (FC_X3_variableOf (Nat.le_refl _) hq) (Nat.lt_of_lt_of_le (by decide) hd) (fun v s hvs => ?_)
  obtain ⟨hv1, hv2⟩ := hvs; subst hv1; subst hv2
  refine B_X3_part_306  (fun hc => ?_) (fun hc => ?_)
  · rw [if_neg hc] at h
    obtain ⟨w2, ow2, h⟩ := sw_bnd h
    obtain ⟨o4, h⟩ := sw_ifs h
    obtain ⟨q3, hq, h⟩ := sw_bnd h
    refine B_X3_part_328 ow2 (FC_X0_emit (Nat.le_refl _) hq) (Nat.lt_of_lt_of_le (by decide) hd) (fun s hvs => ?_) o4
    subst hvs
    obtain ⟨q5, hq, h⟩ := sw_bnd h
    refine B_X3_part_340  (FC_X6_advance (Nat.le_refl _) hq) (Nat.lt_of_lt_of_le (by decide) hd) (fun s hvs => ?_)
    subst hvs
    cases h
    exact B_X3_part_347  ⟨_, rfl, rfl, rfl⟩
  · rw [if_pos hc] at h
    obtain ⟨q6, hq, h⟩ := sw_bnd h
    refine B_X3_part_312  (FC_X6_fail (Nat.le_refl _) hq) (Nat.lt_of_lt_of_le (by decide) hd) (fun v s hvs => ?_)
    obtain ⟨hv1, hv2⟩ := hvs; subst hv1; subst hv2
    obtain ⟨hz, h⟩ := sw_ifs h
    cases h
    exact B_X3_part_327  hz ⟨_, rfl, rfl, rfl⟩
noncomputable def S_X3_part_271 (rc : Nat → sw_St → Int32 → Option (Int32 × sw_St)) (σ : sw_St) : Option (Int32 × sw_St) :=
  some (0, σ)
theorem SC_X3_part_271 {E : sw_E} {d : Nat} (hd : 7 ≤ d) {rc : Nat → sw_St → Int32 → Option (Int32 × sw_St)} {d0 : Nat} (hrc : sw_pgH E rc d0) (hd0 : d0 < d) {p : Int32 × sw_St} {σ : sw_St} (h : S_X3_part_271 rc σ  = some p) : sw_W E sw_gX m_X3_part d 271 [] [] σ (sw_pI p) := by
  unfold S_X3_part_271 at h
  cases h
  exact B_X3_part_271  ⟨_, rfl, rfl, rfl⟩
noncomputable def S_X3_part_293 (rc : Nat → sw_St → Int32 → Option (Int32 × sw_St)) (σ : sw_St) (sx0 : Int32) (so1 : Nat) : Option (Int32 × sw_St) :=
  if sw_isO sw_gX so1 0 = true then ((F_X0_emit σ so1 sx0).bind fun q1 => some (1, q1.2)) else none
theorem SC_X3_part_293 {E : sw_E} {d : Nat} (hd : 7 ≤ d) {rc : Nat → sw_St → Int32 → Option (Int32 × sw_St)} {d0 : Nat} (hrc : sw_pgH E rc d0) (hd0 : d0 < d) {p : Int32 × sw_St} {σ : sw_St} {sx0 : Int32} {so1 : Nat} (h : S_X3_part_293 rc σ sx0 so1 = some p) : sw_W E sw_gX m_X3_part d 293 [] [.int sx0, .ref so1] σ (sw_pI p) := by
  unfold S_X3_part_293 at h
  obtain ⟨o2, h⟩ := sw_ifs h
  obtain ⟨q1, hq, h⟩ := sw_bnd h
  refine B_X3_part_293  (FC_X0_emit (Nat.le_refl _) hq) (Nat.lt_of_lt_of_le (by decide) hd) (fun s hvs => ?_) o2
  subst hvs
  cases h
  exact B_X3_part_296  ⟨_, rfl, rfl, rfl⟩
noncomputable def S_X3_part_253 (rc : Nat → sw_St → Int32 → Option (Int32 × sw_St)) (σ : sw_St) (x1 : Int32) (x2 : Int32) : Option (Int32 × sw_St) :=
  (F_X3_opens σ x1).bind fun q1 => if q1.1 = 0 then (S_X3_part_271 rc q1.2 ) else ((rc 5 q1.2 (x1 + 1)).bind fun q2 => if q2.1 = 0 then (S_X3_part_271 rc q2.2 ) else ((q2.2.2.2 32 2).bind fun w3 => (if x2 = 271 then (S_X3_part_293 rc q2.2 10022 w3) else (S_X3_part_293 rc q2.2 10023 w3))))
theorem SC_X3_part_253 {E : sw_E} {d : Nat} (hd : 7 ≤ d) {rc : Nat → sw_St → Int32 → Option (Int32 × sw_St)} {d0 : Nat} (hrc : sw_pgH E rc d0) (hd0 : d0 < d) {p : Int32 × sw_St} {σ : sw_St} {x1 : Int32} {x2 : Int32} (h : S_X3_part_253 rc σ x1 x2 = some p) : sw_W E sw_gX m_X3_part d 253 [(0, .ref 32), (1, .int x1), (2, .int x2)] [] σ (sw_pI p) := by
  unfold S_X3_part_253 at h
  obtain ⟨q1, hq, h⟩ := sw_bnd h
  refine B_X3_part_253  (FC_X3_opens (Nat.le_refl _) hq) (Nat.lt_of_lt_of_le (by decide) hd) (fun v s hvs => ?_)
  obtain ⟨hv1, hv2⟩ := hvs; subst hv1; subst hv2
  refine B_X3_part_258  (fun hc => ?_) (fun hc => ?_)
  · rw [if_pos hc] at h
    exact SC_X3_part_271 hd hrc hd0 h
  · rw [if_neg hc] at h
    obtain ⟨q2, hq, h⟩ := sw_bnd h
    refine B_X3_part_261  (hrc.2.2.2.2.2 _ _ _ hq) hd0 (fun v s hvs => ?_)
    obtain ⟨hv1, hv2⟩ := hvs; subst hv1; subst hv2
    refine B_X3_part_268  (fun hc => ?_) (fun hc => ?_)
    · rw [if_neg hc] at h
      obtain ⟨w3, ow3, h⟩ := sw_bnd h
      refine B_X3_part_273 ow3 (fun hc => ?_) (fun hc => ?_)
      · rw [if_neg hc] at h
        refine B_X3_part_290  ?_
        exact SC_X3_part_293 hd hrc hd0 h
      · rw [if_pos hc] at h
        refine B_X3_part_284  ?_
        exact SC_X3_part_293 hd hrc hd0 h
    · rw [if_pos hc] at h
      exact SC_X3_part_271 hd hrc hd0 h
noncomputable def F_X3_part (rc : Nat → sw_St → Int32 → Option (Int32 × sw_St)) (σ : sw_St) (x1 : Int32) : Option (Int32 × sw_St) :=
  if (σ.1 2 2) = 40 then ((F_X3_opens σ x1).bind fun q1 => if q1.1 = 0 then (S_X3_part_115 rc q1.2 ) else ((rc 3 q1.2 (x1 + 1)).bind fun q2 => if q2.1 = 0 then (S_X3_part_115 rc q2.2 ) else ((F_X6_expect q2.2 41).bind fun q3 => if q3.1 = 0 then (S_X3_part_115 rc q3.2 ) else (S_X3_part_116 rc q3.2 1)))) else if (σ.1 2 2) = 279 then (S_X3_part_117 rc σ x1 (σ.1 2 2)) else if (σ.1 2 2) = 280 then (S_X3_part_117 rc σ x1 (σ.1 2 2)) else if (σ.1 2 2) = 300 then ((F_X6_takeNumber σ 0 9999).bind fun q4 => if q4.1 = (-1) then (some (0, q4.2)) else ((q4.2.2.2 32 2).bind fun w5 => (if sw_isO sw_gX w5 0 = true then ((F_X0_emit q4.2 w5 q4.1).bind fun q6 => some (1, q6.2)) else none))) else (if (σ.1 32 3) = 3 then (if (σ.1 2 2) = 271 then (S_X3_part_253 rc σ x1 (σ.1 2 2)) else (if (σ.1 2 2) = 265 then (S_X3_part_253 rc σ x1 (σ.1 2 2)) else (S_X3_part_298 rc σ (σ.1 2 2)))) else (S_X3_part_298 rc σ (σ.1 2 2)))
theorem FC_X3_part {E : sw_E} {d : Nat} (hd : 7 ≤ d) {rc : Nat → sw_St → Int32 → Option (Int32 × sw_St)} {d0 : Nat} (hrc : sw_pgH E rc d0) (hd0 : d0 < d) {p : Int32 × sw_St} {σ : sw_St} {x1 : Int32} (h : F_X3_part rc σ x1 = some p) : sw_KI E sw_gX m_X3_part d [.ref 32, .int x1] σ (fun v s => v = p.1 ∧ s = p.2) := by
  unfold F_X3_part at h
  refine sw_K.of (by decide +kernel) rfl (Nat.le_of_ble_eq_true rfl) ?_
  show sw_W E sw_gX m_X3_part d 0 [(0, .ref 32), (1, .int x1)] [] σ (sw_pI p)
  refine B_X3_part_0  (fun hc => ?_) (fun hc => ?_) (fun hc => ?_) (fun hc => ?_) (fun n0 n1 n2 n3 => ?_)
  · rw [if_pos hc] at h
    obtain ⟨q1, hq, h⟩ := sw_bnd h
    refine B_X3_part_81  (FC_X3_opens (Nat.le_refl _) hq) (Nat.lt_of_lt_of_le (by decide) hd) (fun v s hvs => ?_)
    obtain ⟨hv1, hv2⟩ := hvs; subst hv1; subst hv2
    refine B_X3_part_86  (fun hc => ?_) (fun hc => ?_)
    · rw [if_pos hc] at h
      exact SC_X3_part_115 hd hrc hd0 h
    · rw [if_neg hc] at h
      obtain ⟨q2, hq, h⟩ := sw_bnd h
      refine B_X3_part_89  (hrc.2.2.2.1 _ _ _ hq) hd0 (fun v s hvs => ?_)
      obtain ⟨hv1, hv2⟩ := hvs; subst hv1; subst hv2
      refine B_X3_part_96  (fun hc => ?_) (fun hc => ?_)
      · rw [if_pos hc] at h
        exact SC_X3_part_115 hd hrc hd0 h
      · rw [if_neg hc] at h
        obtain ⟨q3, hq, h⟩ := sw_bnd h
        refine B_X3_part_99  (FC_X6_expect (Nat.le_refl _) hq) (Nat.lt_of_lt_of_le (by decide) hd) (fun v s hvs => ?_)
        obtain ⟨hv1, hv2⟩ := hvs; subst hv1; subst hv2
        refine B_X3_part_108  (fun hc => ?_) (fun hc => ?_)
        · rw [if_pos hc] at h
          exact SC_X3_part_115 hd hrc hd0 h
        · rw [if_neg hc] at h
          refine B_X3_part_111  ?_
          exact SC_X3_part_116 hd hrc hd0 h
  · rw [if_neg (fun z => absurd (hc.symm.trans z) (by decide)), if_pos hc] at h
    exact SC_X3_part_117 hd hrc hd0 h
  · rw [if_neg (fun z => absurd (hc.symm.trans z) (by decide)), if_neg (fun z => absurd (hc.symm.trans z) (by decide)), if_pos hc] at h
    exact SC_X3_part_117 hd hrc hd0 h
  · rw [if_neg (fun z => absurd (hc.symm.trans z) (by decide)), if_neg (fun z => absurd (hc.symm.trans z) (by decide)), if_neg (fun z => absurd (hc.symm.trans z) (by decide)), if_pos hc] at h
    obtain ⟨q4, hq, h⟩ := sw_bnd h
    refine B_X3_part_52  (FC_X6_takeNumber (Nat.le_refl _) hq) (Nat.lt_of_lt_of_le (by decide) hd) (fun v s hvs => ?_)
    obtain ⟨hv1, hv2⟩ := hvs; subst hv1; subst hv2
    refine B_X3_part_63  (fun hc => ?_) (fun hc => ?_)
    · rw [if_neg hc] at h
      obtain ⟨w5, ow5, h⟩ := sw_bnd h
      obtain ⟨o7, h⟩ := sw_ifs h
      obtain ⟨q6, hq, h⟩ := sw_bnd h
      refine B_X3_part_71 ow5 (FC_X0_emit (Nat.le_refl _) hq) (Nat.lt_of_lt_of_le (by decide) hd) (fun s hvs => ?_) o7
      subst hvs
      cases h
      exact B_X3_part_79  ⟨_, rfl, rfl, rfl⟩
    · rw [if_pos hc] at h
      cases h
      exact B_X3_part_69  ⟨_, rfl, rfl, rfl⟩
  · rw [if_neg n0, if_neg n1, if_neg n2, if_neg n3] at h
    refine B_X3_part_231  (fun hc => ?_) (fun hc => ?_)
    · rw [if_neg hc] at h
      exact SC_X3_part_298 hd hrc hd0 h
    · rw [if_pos hc] at h
      refine B_X3_part_239  (fun hc => ?_) (fun hc => ?_)
      · rw [if_pos hc] at h
        exact SC_X3_part_253 hd hrc hd0 h
      · rw [if_neg hc] at h
        refine B_X3_part_246  (fun hc => ?_) (fun hc => ?_)
        · rw [if_neg hc] at h
          exact SC_X3_part_298 hd hrc hd0 h
        · rw [if_pos hc] at h
          exact SC_X3_part_253 hd hrc hd0 h

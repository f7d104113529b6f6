/-! The methods, what they need to be called, the links of the calls. -/
def sw_KI (E : sw_E) (G : sw_G) (N : sw_M) (d : Nat) (av : List Value) (σ : sw_St) (Q : Int32 → sw_St → Prop) : Prop := sw_K E G N d av σ (fun r s => ∃ v, r = some (.int v) ∧ Q v s)
def sw_KL (E : sw_E) (G : sw_G) (N : sw_M) (d : Nat) (av : List Value) (σ : sw_St) (Q : Int64 → sw_St → Prop) : Prop := sw_K E G N d av σ (fun r s => ∃ v, r = some (.long v) ∧ Q v s)
def sw_KV (E : sw_E) (G : sw_G) (N : sw_M) (d : Nat) (av : List Value) (σ : sw_St) (Q : sw_St → Prop) : Prop := sw_K E G N d av σ (fun r s => r = none ∧ Q s)
theorem sw_nz {v : Int32} (h : v = 0 ∨ v = 1) : narrow .boolean (.int v) = .int v := by rcases h with rfl | rfl <;> rfl
def sw_ckw (l : List (Nat × Cond)) : Bool := l.all fun w => decide (lw_tbl[w.1]? = some w.2) && goodWord w.2
theorem sw_ckw_sp {l : List (Nat × Cond)} (h : sw_ckw l = true) {w : Nat × Cond} (hw : w ∈ l) : w.2 ∈ sw_T := sw_T_at w.1 (List.all_eq_true.mp h w hw)
def sw_ckM (N : sw_M) : Bool := decide (N.2.2.1 ≤ 40) && decide (N.1.cls ≠ "java/lang/invoke/MethodHandle") && decide (N.1.cls ≠ "java/lang/invoke/VarHandle")
def sw_ckV (q : sw_M × Nat × Nat × Nat × Nat) : Bool := sw_ckM q.1 && sw_ckw [(q.2.2.1, Cond.initialized q.1.1.cls), (q.2.2.2.1, Cond.instanceMethod q.1.1), (q.2.2.2.2, Cond.selects q.1.1.cls q.1.1 q.1.1)]
def sw_ckS (q : sw_M × Nat × Nat × Nat × Nat) : Bool := sw_ckM q.1 && sw_ckw [(q.2.2.1, Cond.initialized q.1.1.cls), (q.2.2.2.1, Cond.static q.1.1)]
theorem sw_ckM_sp {N : sw_M} (h : sw_ckM N = true) : N.2.2.1 ≤ 40 ∧ (N.1.cls ≠ "java/lang/invoke/MethodHandle" ∧ N.1.cls ≠ "java/lang/invoke/VarHandle") := by
  unfold sw_ckM at h
  simp only [Bool.and_eq_true, decide_eq_true_eq] at h
  exact ⟨h.1.1, h.1.2, h.2⟩
theorem sw_ckV_in {l : List (sw_M × Nat × Nat × Nat × Nat)} (h : l.all sw_ckV = true) (i : Nat) {q : sw_M × Nat × Nat × Nat × Nat} (hi : l[i]? = some q) (hc : Cond.code q.1.1 q.1.2.1 q.1.2.2.1 q.1.2.2.2.1 ∈ sw_T) : sw_okV q.1 := by
  have h1 := List.all_eq_true.mp h q (List.mem_of_getElem? hi)
  unfold sw_ckV at h1
  rw [Bool.and_eq_true] at h1
  obtain ⟨g1, g2, g3⟩ := sw_ckM_sp h1.1
  exact ⟨⟨hc, sw_ckw_sp h1.2 (List.mem_of_getElem? (i := 0) rfl), g1, g2, g3⟩, sw_ckw_sp h1.2 (List.mem_of_getElem? (i := 1) rfl), sw_ckw_sp h1.2 (List.mem_of_getElem? (i := 2) rfl)⟩
theorem sw_ckS_in {l : List (sw_M × Nat × Nat × Nat × Nat)} (h : l.all sw_ckS = true) (i : Nat) {q : sw_M × Nat × Nat × Nat × Nat} (hi : l[i]? = some q) (hc : Cond.code q.1.1 q.1.2.1 q.1.2.2.1 q.1.2.2.2.1 ∈ sw_T) : sw_okS q.1 := by
  have h1 := List.all_eq_true.mp h q (List.mem_of_getElem? hi)
  unfold sw_ckS at h1
  rw [Bool.and_eq_true] at h1
  obtain ⟨g1, g2, g3⟩ := sw_ckM_sp h1.1
  exact ⟨⟨hc, sw_ckw_sp h1.2 (List.mem_of_getElem? (i := 0) rfl), g1, g2, g3⟩, sw_ckw_sp h1.2 (List.mem_of_getElem? (i := 1) rfl)⟩
theorem sw_ckw_in {l : List (Nat × Cond)} (h : sw_ckw l = true) (i : Nat) {p : Nat} {w : Cond} (hi : l[i]? = some (p, w)) : w ∈ sw_T := sw_ckw_sp (w := (p, w)) h (List.mem_of_getElem? hi)
theorem sw_t1 {w : Cond} (h : w ∈ tables_1_1) : w ∈ lw_tbl := List.mem_append_right _ (List.mem_append_left _ h)
theorem sw_t2 {w : Cond} (h : w ∈ tables_1_2) : w ∈ lw_tbl := List.mem_append_right _ (List.mem_append_right _ (List.mem_append_left _ h))
theorem sw_t3 {w : Cond} (h : w ∈ tables_1_3) : w ∈ lw_tbl := List.mem_append_right _ (List.mem_append_right _ (List.mem_append_right _ (List.mem_append_left _ h)))
theorem sw_t4 {w : Cond} (h : w ∈ tables_1_4) : w ∈ lw_tbl := List.mem_append_right _ (List.mem_append_right _ (List.mem_append_right _ (List.mem_append_right _ (List.mem_append_left _ h))))
theorem sw_t5 {w : Cond} (h : w ∈ tables_1_5) : w ∈ lw_tbl := List.mem_append_right _ (List.mem_append_right _ (List.mem_append_right _ (List.mem_append_right _ (List.mem_append_right _ (List.mem_append_left _ h)))))
theorem sw_t6 {w : Cond} (h : w ∈ tables_1_6) : w ∈ lw_tbl := List.mem_append_right _ (List.mem_append_right _ (List.mem_append_right _ (List.mem_append_right _ (List.mem_append_right _ (List.mem_append_right _ (List.mem_append_left _ h))))))
theorem sw_t7 {w : Cond} (h : w ∈ tables_1_7) : w ∈ lw_tbl := List.mem_append_right _ (List.mem_append_right _ (List.mem_append_right _ (List.mem_append_right _ (List.mem_append_right _ (List.mem_append_right _ (List.mem_append_right _ (List.mem_append_left _ h)))))))
theorem sw_t8 {w : Cond} (h : w ∈ tables_1_8) : w ∈ lw_tbl := List.mem_append_right _ (List.mem_append_right _ (List.mem_append_right _ (List.mem_append_right _ (List.mem_append_right _ (List.mem_append_right _ (List.mem_append_right _ (List.mem_append_right _ (List.mem_append_left _ h))))))))
theorem sw_t9 {w : Cond} (h : w ∈ tables_1_9) : w ∈ lw_tbl := List.mem_append_right _ (List.mem_append_right _ (List.mem_append_right _ (List.mem_append_right _ (List.mem_append_right _ (List.mem_append_right _ (List.mem_append_right _ (List.mem_append_right _ (List.mem_append_right _ h))))))))
def m_X0_emit : sw_M := (yX0_emit, cX0_emit, 2, none, 0)
def m_X1_look : sw_M := (yX1_look, cX1_look, 3, none, 1)
def m_X1_daysAtMost : sw_M := (yX1_daysAtMost, cX1_daysAtMost, 2, some .int, 1)
def m_X1_daysToHome : sw_M := (yX1_daysToHome, cX1_daysToHome, 4, some .int, 1)
def m_X1_fewestChanges : sw_M := (yX1_fewestChanges, cX1_fewestChanges, 4, some .int, 1)
def m_X1_tryDays : sw_M := (yX1_tryDays, cX1_tryDays, 14, none, 1)
def m_X1_tryThrough : sw_M := (yX1_tryThrough, cX1_tryThrough, 13, none, 1)
def m_X1_isFewer : sw_M := (yX1_isFewer, cX1_isFewer, 3, some .boolean, 1)
def m_X1_bestRumour : sw_M := (yX1_bestRumour, cX1_bestRumour, 8, some .int, 1)
def m_X1_fewestMiles : sw_M := (yX1_fewestMiles, cX1_fewestMiles, 6, some .int, 1)
def m_X1_shorten : sw_M := (yX1_shorten, cX1_shorten, 5, none, 1)
def m_X1_bestWait : sw_M := (yX1_bestWait, cX1_bestWait, 8, some .int, 1)
def m_X1_leastCoat : sw_M := (yX1_leastCoat, cX1_leastCoat, 7, some .int, 1)
def m_X1_milesOf : sw_M := (yX1_milesOf, cX1_milesOf, 4, some .int, 1)
def m_X1_leastWatch : sw_M := (yX1_leastWatch, cX1_leastWatch, 5, some .int, 1)
def m_X1_fillNear : sw_M := (yX1_fillNear, cX1_fillNear, 3, none, 1)
def m_X1_watches : sw_M := (yX1_watches, cX1_watches, 4, some .boolean, 1)
def m_X1_countWays : sw_M := (yX1_countWays, cX1_countWays, 8, some .long, 1)
def m_X1_leadEnds : sw_M := (yX1_leadEnds, cX1_leadEnds, 5, none, 1)
def m_X1_takeFelt : sw_M := (yX1_takeFelt, cX1_takeFelt, 5, some .boolean, 1)
def m_X1_fillCrimps : sw_M := (yX1_fillCrimps, cX1_fillCrimps, 5, none, 1)
def m_X1_curiousBits : sw_M := (yX1_curiousBits, cX1_curiousBits, 7, some .int, 1)
def m_X1_curiousBy : sw_M := (yX1_curiousBy, cX1_curiousBy, 5, some .int, 1)
def m_X1_telling : sw_M := (yX1_telling, cX1_telling, 11, some .int, 1)
def m_X1_mostLeft : sw_M := (yX1_mostLeft, cX1_mostLeft, 6, some .int, 1)
def m_X2_setSheep : sw_M := (yX2_setSheep, cX2_setSheep, 4, none, 2)
def m_X2_setField : sw_M := (yX2_setField, cX2_setField, 4, none, 2)
def m_X2_leads : sw_M := (yX2_leads, cX2_leads, 4, some .boolean, 2)
def m_X2_choice : sw_M := (yX2_choice, cX2_choice, 3, some .int, 2)
def m_X2_luring : sw_M := (yX2_luring, cX2_luring, 10, some .int, 2)
def m_X2_mostLuring : sw_M := (yX2_mostLuring, cX2_mostLuring, 6, some .int, 2)
def m_X2_pullBy : sw_M := (yX2_pullBy, cX2_pullBy, 5, some .int, 2)
def m_X2_passThrough : sw_M := (yX2_passThrough, cX2_passThrough, 6, none, 2)
def m_X2_passDay : sw_M := (yX2_passDay, cX2_passDay, 5, some .int, 2)
def m_X2_goOn : sw_M := (yX2_goOn, cX2_goOn, 6, none, 2)
def m_X2_worthOf : sw_M := (yX2_worthOf, cX2_worthOf, 3, some .int, 2)
def m_X2_answer : sw_M := (yX2_answer, cX2_answer, 8, some .long, 2)
def m_X2_questionOf : sw_M := (yX2_questionOf, cX2_questionOf, 8, some .int, 2)
def m_X3_readUpland : sw_M := (yX3_readUpland, cX3_readUpland, 5, some .boolean, 3)
def m_X3_readQuestion : sw_M := (yX3_readQuestion, cX3_readQuestion, 6, some .int, 3)
def m_X3_statement : sw_M := (yX3_statement, cX3_statement, 1, some .boolean, 3)
def m_X3_fieldStatement : sw_M := (yX3_fieldStatement, cX3_fieldStatement, 4, some .boolean, 3)
def m_X3_gapStatement : sw_M := (yX3_gapStatement, cX3_gapStatement, 5, some .boolean, 3)
def m_X3_shutStatement : sw_M := (yX3_shutStatement, cX3_shutStatement, 3, some .boolean, 3)
def m_X3_sheepStatement : sw_M := (yX3_sheepStatement, cX3_sheepStatement, 5, some .boolean, 3)
def m_X3_beginFormula : sw_M := (yX3_beginFormula, cX3_beginFormula, 2, some .boolean, 3)
def m_X3_endFormula : sw_M := (yX3_endFormula, cX3_endFormula, 2, some .boolean, 3)
def m_X3_stormStatement : sw_M := (yX3_stormStatement, cX3_stormStatement, 2, some .boolean, 3)
def m_X3_newName : sw_M := (yX3_newName, cX3_newName, 3, some .int, 3)
def m_X3_knownField : sw_M := (yX3_knownField, cX3_knownField, 5, some .int, 3)
def m_X3_test : sw_M := (yX3_test, cX3_test, 3, some .boolean, 3)
def m_X3_both : sw_M := (yX3_both, cX3_both, 3, some .boolean, 3)
def m_X3_fact : sw_M := (yX3_fact, cX3_fact, 3, some .boolean, 3)
def m_X3_signCode : sw_M := (yX3_signCode, cX3_signCode, 1, some .int, 3)
def m_X3_opens : sw_M := (yX3_opens, cX3_opens, 2, some .boolean, 3)
def m_X3_sum : sw_M := (yX3_sum, cX3_sum, 4, some .boolean, 3)
def m_X3_product : sw_M := (yX3_product, cX3_product, 4, some .boolean, 3)
def m_X3_part : sw_M := (yX3_part, cX3_part, 4, some .boolean, 3)
def m_X3_variableOf : sw_M := (yX3_variableOf, cX3_variableOf, 2, some .int, 3)
def m_X4_clear : sw_M := (yX4_clear, cX4_clear, 1, none, 4)
def m_X4_remember : sw_M := (yX4_remember, cX4_remember, 2, none, 4)
def m_X4_restore : sw_M := (yX4_restore, cX4_restore, 2, none, 4)
def m_X5_write : sw_M := (yX5_write, cX5_write, 5, none, 5)
def m_X5_put : sw_M := (yX5_put, cX5_put, 4, none, 5)
def m_X5_checkOf : sw_M := (yX5_checkOf, cX5_checkOf, 4, some .int, 5)
def m_X5_read : sw_M := (yX5_read, cX5_read, 8, some .boolean, 5)
def m_X5_take : sw_M := (yX5_take, cX5_take, 6, some .int, 5)
def m_X6_open : sw_M := (yX6_open, cX6_open, 3, none, 6)
def m_X6_advance : sw_M := (yX6_advance, cX6_advance, 2, none, 6)
def m_X6_isLetter : sw_M := (yX6_isLetter, cX6_isLetter, 2, some .boolean, 6)
def m_X6_isDigit : sw_M := (yX6_isDigit, cX6_isDigit, 2, some .boolean, 6)
def m_X6_wordKind : sw_M := (yX6_wordKind, cX6_wordKind, 6, some .int, 6)
def m_X6_fail : sw_M := (yX6_fail, cX6_fail, 3, some .boolean, 6)
def m_X6_expect : sw_M := (yX6_expect, cX6_expect, 2, some .boolean, 6)
def m_X6_takeNumber : sw_M := (yX6_takeNumber, cX6_takeNumber, 5, some .int, 6)
def m_X6_takeName : sw_M := (yX6_takeName, cX6_takeName, 3, some .int, 6)
def m_X7_run : sw_M := (yX7_run, cX7_run, 5, some .int, 7)
def m_X7_step : sw_M := (yX7_step, cX7_step, 4, none, 7)
def m_X7_push : sw_M := (yX7_push, cX7_push, 3, none, 7)
def m_X7_pop : sw_M := (yX7_pop, cX7_pop, 1, some .int, 7)
def m_X8_begin : sw_M := (yX8_begin, cX8_begin, 3, none, 8)
def m_X8_copyFrom : sw_M := (yX8_copyFrom, cX8_copyFrom, 2, none, 8)
def m_X8_copyOne : sw_M := (yX8_copyOne, cX8_copyOne, 3, none, 8)
def m_X8_allMiles : sw_M := (yX8_allMiles, cX8_allMiles, 4, some .int, 8)
def m_X8_keep : sw_M := (yX8_keep, cX8_keep, 4, none, 8)
def m_X8_keptPart : sw_M := (yX8_keptPart, cX8_keptPart, 5, some .int, 8)
def m_X9_clear : sw_M := (yX9_clear, cX9_clear, 1, none, 9)
def m_X9_setFormula : sw_M := (yX9_setFormula, cX9_setFormula, 4, none, 9)
def m_X9_fieldNamed : sw_M := (yX9_fieldNamed, cX9_fieldNamed, 3, some .int, 9)
def m_X9_sheepNamed : sw_M := (yX9_sheepNamed, cX9_sheepNamed, 3, some .int, 9)
def m_X9_beyond : sw_M := (yX9_beyond, cX9_beyond, 3, some .int, 9)
def m_X10_feed : sw_M := (yX10_feed, cX10_feed, 6, some .int, 10)
def m_X10_end : sw_M := (yX10_end, cX10_end, 2, some .boolean, 10)
def m_X10_upland : sw_M := (yX10_upland, cX10_upland, 3, some .int, 10)
def m_X10_fault : sw_M := (yX10_fault, cX10_fault, 2, some .int, 10)
def m_X10_has : sw_M := (yX10_has, cX10_has, 2, some .int, 10)
def m_X10_letter : sw_M := (yX10_letter, cX10_letter, 5, some .int, 10)
def m_X10_lure : sw_M := (yX10_lure, cX10_lure, 2, some .int, 10)
def m_X10_gap : sw_M := (yX10_gap, cX10_gap, 3, some .int, 10)
def m_X10_sheep : sw_M := (yX10_sheep, cX10_sheep, 3, some .int, 10)
def m_X10_seen : sw_M := (yX10_seen, cX10_seen, 3, some .int, 10)
def m_X10_strays : sw_M := (yX10_strays, cX10_strays, 2, some .int, 10)
def m_X10_brings : sw_M := (yX10_brings, cX10_brings, 2, some .int, 10)
def m_X10_kept : sw_M := (yX10_kept, cX10_kept, 3, some .int, 10)
def m_X10_later : sw_M := (yX10_later, cX10_later, 4, some .int, 10)
def m_X10_home : sw_M := (yX10_home, cX10_home, 2, some .int, 10)
def m_X10_gaps : sw_M := (yX10_gaps, cX10_gaps, 4, some .int, 10)
def m_X10_rumour : sw_M := (yX10_rumour, cX10_rumour, 3, some .int, 10)
def m_X10_way : sw_M := (yX10_way, cX10_way, 3, some .int, 10)
def m_X10_waits : sw_M := (yX10_waits, cX10_waits, 4, some .int, 10)
def m_X10_coat : sw_M := (yX10_coat, cX10_coat, 2, some .int, 10)
def m_X10_watch : sw_M := (yX10_watch, cX10_watch, 2, some .int, 10)
def m_X10_ways : sw_M := (yX10_ways, cX10_ways, 4, some .long, 10)
def m_X10_feel : sw_M := (yX10_feel, cX10_feel, 2, some .int, 10)
def m_X10_curious : sw_M := (yX10_curious, cX10_curious, 2, some .int, 10)
def m_X10_tells : sw_M := (yX10_tells, cX10_tells, 3, some .int, 10)
def m_X10_shear : sw_M := (yX10_shear, cX10_shear, 3, some .int, 10)
def m_X10_lead : sw_M := (yX10_lead, cX10_lead, 3, some .boolean, 10)
def m_X10_swing : sw_M := (yX10_swing, cX10_swing, 3, some .boolean, 10)
def m_X10_tell : sw_M := (yX10_tell, cX10_tell, 4, some .boolean, 10)
def m_X10_days : sw_M := (yX10_days, cX10_days, 4, some .int, 10)
def m_X10_chance : sw_M := (yX10_chance, cX10_chance, 4, some .int, 10)
def m_X10_undo : sw_M := (yX10_undo, cX10_undo, 1, some .boolean, 10)
def m_X10_seed : sw_M := (yX10_seed, cX10_seed, 2, some .boolean, 10)
def m_X10_ask : sw_M := (yX10_ask, cX10_ask, 3, some .long, 10)
def m_X10_image : sw_M := (yX10_image, cX10_image, 1, some .int, 10)
def m_X10_octet : sw_M := (yX10_octet, cX10_octet, 2, some .int, 10)
def m_X10_on : sw_M := (yX10_on, cX10_on, 2, some .boolean, 10)
def m_X10_status : sw_M := (yX10_status, cX10_status, 2, some .int, 10)
def m_X10_refuse : sw_M := (yX10_refuse, cX10_refuse, 2, some .int, 10)
def m_X10_putBytes : sw_M := (yX10_putBytes, cX10_putBytes, 3, none, 10)
def m_X10_takeTape : sw_M := (yX10_takeTape, cX10_takeTape, 2, some .int, 10)
def m_X10_isField : sw_M := (yX10_isField, cX10_isField, 2, some .boolean, 10)
def m_X10_isGap : sw_M := (yX10_isGap, cX10_isGap, 2, some .boolean, 10)
def m_X10_isSheep : sw_M := (yX10_isSheep, cX10_isSheep, 2, some .boolean, 10)
def m_X10_canCome : sw_M := (yX10_canCome, cX10_canCome, 3, some .boolean, 10)
def m_X10_stormComes : sw_M := (yX10_stormComes, cX10_stormComes, 1, some .boolean, 10)
def m_X10_draw : sw_M := (yX10_draw, cX10_draw, 2, some .int, 10)
def m_X11_isIn : sw_M := (yX11_isIn, cX11_isIn, 6, some .boolean, 11)
def m_X11_feed : sw_M := (yX11_feed, cX11_feed, 8, some .int, 11)
def m_X11_end : sw_M := (yX11_end, cX11_end, 2, some .boolean, 11)
def m_X11_fail : sw_M := (yX11_fail, cX11_fail, 3, none, 11)
def m_X11_isLetter : sw_M := (yX11_isLetter, cX11_isLetter, 1, some .boolean, 11)
def m_X11_isDigit : sw_M := (yX11_isDigit, cX11_isDigit, 1, some .boolean, 11)
def m_X11_look : sw_M := (yX11_look, cX11_look, 1, some .int, 11)
def m_X11_isHere : sw_M := (yX11_isHere, cX11_isHere, 4, some .boolean, 11)
def m_X11_takes : sw_M := (yX11_takes, cX11_takes, 2, some .boolean, 11)
def m_X11_asks : sw_M := (yX11_asks, cX11_asks, 2, none, 11)
def m_X11_takesSign : sw_M := (yX11_takesSign, cX11_takesSign, 2, some .boolean, 11)
def m_X11_asksSign : sw_M := (yX11_asksSign, cX11_asksSign, 2, none, 11)
def m_X11_number : sw_M := (yX11_number, cX11_number, 5, some .int, 11)
def m_X11_isOwnHere : sw_M := (yX11_isOwnHere, cX11_isOwnHere, 2, some .boolean, 11)
def m_X11_name : sw_M := (yX11_name, cX11_name, 3, some .long, 11)
def m_X11_isAllowed : sw_M := (yX11_isAllowed, cX11_isAllowed, 2, some .boolean, 11)
def m_X11_isFull : sw_M := (yX11_isFull, cX11_isFull, 4, some .boolean, 11)
def m_X11_newName : sw_M := (yX11_newName, cX11_newName, 5, some .long, 11)
def m_X11_fieldNamed : sw_M := (yX11_fieldNamed, cX11_fieldNamed, 5, some .int, 11)
def m_X11_fieldTold : sw_M := (yX11_fieldTold, cX11_fieldTold, 5, none, 11)
def m_X11_gapTold : sw_M := (yX11_gapTold, cX11_gapTold, 6, none, 11)
def m_X11_shutTold : sw_M := (yX11_shutTold, cX11_shutTold, 2, none, 11)
def m_X11_sheepTold : sw_M := (yX11_sheepTold, cX11_sheepTold, 7, none, 11)
def m_X11_codesTold : sw_M := (yX11_codesTold, cX11_codesTold, 4, none, 11)
def m_X11_statementTold : sw_M := (yX11_statementTold, cX11_statementTold, 2, none, 11)
def m_X11_upland : sw_M := (yX11_upland, cX11_upland, 2, some .int, 11)
def m_X11_stands : sw_M := (yX11_stands, cX11_stands, 2, none, 11)
def m_X11_fault : sw_M := (yX11_fault, cX11_fault, 2, some .int, 11)
def m_X11_fieldMany : sw_M := (yX11_fieldMany, cX11_fieldMany, 1, some .int, 11)
def m_X11_sheepMany : sw_M := (yX11_sheepMany, cX11_sheepMany, 1, some .int, 11)
def m_X11_gapMany : sw_M := (yX11_gapMany, cX11_gapMany, 1, some .int, 11)
def m_X11_isField : sw_M := (yX11_isField, cX11_isField, 3, some .boolean, 11)
def m_X11_isSheep : sw_M := (yX11_isSheep, cX11_isSheep, 2, some .boolean, 11)
def m_X11_isGap : sw_M := (yX11_isGap, cX11_isGap, 3, some .boolean, 11)
def m_X11_isOpen : sw_M := (yX11_isOpen, cX11_isOpen, 2, some .boolean, 11)
def m_X11_milesOf : sw_M := (yX11_milesOf, cX11_milesOf, 2, some .int, 11)
def m_X11_fieldOf : sw_M := (yX11_fieldOf, cX11_fieldOf, 2, some .int, 11)
def m_X11_woolOf : sw_M := (yX11_woolOf, cX11_woolOf, 2, some .int, 11)
def m_X11_crimpOf : sw_M := (yX11_crimpOf, cX11_crimpOf, 2, some .int, 11)
def m_X11_ledOf : sw_M := (yX11_ledOf, cX11_ledOf, 2, some .int, 11)
def m_X11_seenOf : sw_M := (yX11_seenOf, cX11_seenOf, 3, some .int, 11)
def m_X11_homeOf : sw_M := (yX11_homeOf, cX11_homeOf, 2, some .int, 11)
def m_X11_curiousOf : sw_M := (yX11_curiousOf, cX11_curiousOf, 2, some .int, 11)
def m_X11_acrossFrom : sw_M := (yX11_acrossFrom, cX11_acrossFrom, 3, some .int, 11)
def m_X11_beyond : sw_M := (yX11_beyond, cX11_beyond, 3, some .int, 11)
def m_X11_isTold : sw_M := (yX11_isTold, cX11_isTold, 2, some .boolean, 11)
def m_X11_codesTell : sw_M := (yX11_codesTell, cX11_codesTell, 5, some .long, 11)
def m_X11_luresOf : sw_M := (yX11_luresOf, cX11_luresOf, 3, some .long, 11)
def m_X11_doesStay : sw_M := (yX11_doesStay, cX11_doesStay, 2, some .boolean, 11)
def m_X11_worthOf : sw_M := (yX11_worthOf, cX11_worthOf, 4, some .int, 11)
def m_X11_gapFor : sw_M := (yX11_gapFor, cX11_gapFor, 8, some .int, 11)
def m_X11_least : sw_M := (yX11_least, cX11_least, 2, some .int, 11)
def m_X11_goesThrough : sw_M := (yX11_goesThrough, cX11_goesThrough, 5, none, 11)
def m_X11_isKept : sw_M := (yX11_isKept, cX11_isKept, 4, none, 11)
def m_X11_sheepGoes : sw_M := (yX11_sheepGoes, cX11_sheepGoes, 3, none, 11)
def m_X11_dayGoes : sw_M := (yX11_dayGoes, cX11_dayGoes, 2, none, 11)
def m_X11_daysGo : sw_M := (yX11_daysGo, cX11_daysGo, 3, none, 11)
def m_X11_oneGoes : sw_M := (yX11_oneGoes, cX11_oneGoes, 4, none, 11)
def m_X11_putsAside : sw_M := (yX11_putsAside, cX11_putsAside, 2, none, 11)
def m_X11_triesAnew : sw_M := (yX11_triesAnew, cX11_triesAnew, 2, none, 11)
def m_X11_takesBack : sw_M := (yX11_takesBack, cX11_takesBack, 1, none, 11)
def m_X11_isAhead : sw_M := (yX11_isAhead, cX11_isAhead, 4, some .boolean, 11)
def m_X11_bits : sw_M := (yX11_bits, cX11_bits, 3, some .int, 11)
def m_X11_openMany : sw_M := (yX11_openMany, cX11_openMany, 3, some .int, 11)
def m_X11_woolAll : sw_M := (yX11_woolAll, cX11_woolAll, 3, some .int, 11)
def m_X11_has : sw_M := (yX11_has, cX11_has, 2, some .int, 11)
def m_X11_letter : sw_M := (yX11_letter, cX11_letter, 9, some .int, 11)
def m_X11_lure : sw_M := (yX11_lure, cX11_lure, 2, some .int, 11)
def m_X11_gap : sw_M := (yX11_gap, cX11_gap, 3, some .int, 11)
def m_X11_sheep : sw_M := (yX11_sheep, cX11_sheep, 3, some .int, 11)
def m_X11_seen : sw_M := (yX11_seen, cX11_seen, 3, some .int, 11)
def m_X11_strays : sw_M := (yX11_strays, cX11_strays, 2, some .int, 11)
def m_X11_brings : sw_M := (yX11_brings, cX11_brings, 2, some .int, 11)
def m_X11_kept : sw_M := (yX11_kept, cX11_kept, 3, some .int, 11)
def m_X11_later : sw_M := (yX11_later, cX11_later, 5, some .int, 11)
def m_X11_home : sw_M := (yX11_home, cX11_home, 4, some .int, 11)
def m_X11_changes : sw_M := (yX11_changes, cX11_changes, 3, none, 11)
def m_X11_gaps : sw_M := (yX11_gaps, cX11_gaps, 6, some .int, 11)
def m_X11_rumour : sw_M := (yX11_rumour, cX11_rumour, 7, some .int, 11)
def m_X11_isCheaper : sw_M := (yX11_isCheaper, cX11_isCheaper, 4, some .boolean, 11)
def m_X11_way : sw_M := (yX11_way, cX11_way, 7, some .int, 11)
def m_X11_waits : sw_M := (yX11_waits, cX11_waits, 8, some .int, 11)
def m_X11_milesBy : sw_M := (yX11_milesBy, cX11_milesBy, 4, some .int, 11)
def m_X11_coat : sw_M := (yX11_coat, cX11_coat, 5, some .int, 11)
def m_X11_watchers : sw_M := (yX11_watchers, cX11_watchers, 5, some .int, 11)
def m_X11_watch : sw_M := (yX11_watch, cX11_watch, 6, some .int, 11)
def m_X11_waysGo : sw_M := (yX11_waysGo, cX11_waysGo, 5, none, 11)
def m_X11_ways : sw_M := (yX11_ways, cX11_ways, 7, some .long, 11)
def m_X11_refuses : sw_M := (yX11_refuses, cX11_refuses, 2, some .int, 11)
def m_X11_feel : sw_M := (yX11_feel, cX11_feel, 4, some .int, 11)
def m_X11_isAsFelt : sw_M := (yX11_isAsFelt, cX11_isAsFelt, 3, some .boolean, 11)
def m_X11_curiousSet : sw_M := (yX11_curiousSet, cX11_curiousSet, 7, some .int, 11)
def m_X11_curious : sw_M := (yX11_curious, cX11_curious, 2, some .int, 11)
def m_X11_mostAlike : sw_M := (yX11_mostAlike, cX11_mostAlike, 7, some .int, 11)
def m_X11_tells : sw_M := (yX11_tells, cX11_tells, 10, some .int, 11)
def m_X11_keeps : sw_M := (yX11_keeps, cX11_keeps, 2, none, 11)
def m_X11_undo : sw_M := (yX11_undo, cX11_undo, 2, some .boolean, 11)
def m_X11_shear : sw_M := (yX11_shear, cX11_shear, 4, some .int, 11)
def m_X11_isRefused : sw_M := (yX11_isRefused, cX11_isRefused, 1, some .boolean, 11)
def m_X11_lead : sw_M := (yX11_lead, cX11_lead, 3, some .boolean, 11)
def m_X11_swing : sw_M := (yX11_swing, cX11_swing, 3, some .boolean, 11)
def m_X11_tell : sw_M := (yX11_tell, cX11_tell, 4, some .boolean, 11)
def m_X11_days : sw_M := (yX11_days, cX11_days, 2, some .int, 11)
def m_X11_seed : sw_M := (yX11_seed, cX11_seed, 2, some .boolean, 11)
def m_X11_drawOf : sw_M := (yX11_drawOf, cX11_drawOf, 2, some .int, 11)
def m_X11_chance : sw_M := (yX11_chance, cX11_chance, 4, some .int, 11)
def m_X11_qCode : sw_M := (yX11_qCode, cX11_qCode, 2, none, 11)
def m_X11_qOpens : sw_M := (yX11_qOpens, cX11_qOpens, 3, none, 11)
def m_X11_qIsOn : sw_M := (yX11_qIsOn, cX11_qIsOn, 2, some .boolean, 11)
def m_X11_qDrops : sw_M := (yX11_qDrops, cX11_qDrops, 1, none, 11)
def m_X11_qIsBracket : sw_M := (yX11_qIsBracket, cX11_qIsBracket, 1, some .boolean, 11)
def m_X11_qBracket : sw_M := (yX11_qBracket, cX11_qBracket, 2, some .int, 11)
def m_X11_qDropsToBracket : sw_M := (yX11_qDropsToBracket, cX11_qDropsToBracket, 1, none, 11)
def m_X11_qWordHere : sw_M := (yX11_qWordHere, cX11_qWordHere, 1, some .int, 11)
def m_X11_qWordOf : sw_M := (yX11_qWordOf, cX11_qWordOf, 4, some .int, 11)
def m_X11_qAsksWord : sw_M := (yX11_qAsksWord, cX11_qAsksWord, 2, none, 11)
def m_X11_qEndsPart : sw_M := (yX11_qEndsPart, cX11_qEndsPart, 1, none, 11)
def m_X11_qPartTold : sw_M := (yX11_qPartTold, cX11_qPartTold, 6, none, 11)
def m_X11_qGoesOn : sw_M := (yX11_qGoesOn, cX11_qGoesOn, 2, some .boolean, 11)
def m_X11_qSums : sw_M := (yX11_qSums, cX11_qSums, 3, none, 11)
def m_X11_qFact : sw_M := (yX11_qFact, cX11_qFact, 2, none, 11)
def m_X11_qHasSquare : sw_M := (yX11_qHasSquare, cX11_qHasSquare, 2, some .boolean, 11)
def m_X11_qDropsNots : sw_M := (yX11_qDropsNots, cX11_qDropsNots, 1, none, 11)
def m_X11_qTest : sw_M := (yX11_qTest, cX11_qTest, 3, none, 11)
def m_X11_qGoesOnTest : sw_M := (yX11_qGoesOnTest, cX11_qGoesOnTest, 1, some .boolean, 11)
def m_X11_qClip : sw_M := (yX11_qClip, cX11_qClip, 2, some .long, 11)
def m_X11_qFloor : sw_M := (yX11_qFloor, cX11_qFloor, 6, some .long, 11)
def m_X11_qPuts : sw_M := (yX11_qPuts, cX11_qPuts, 3, none, 11)
def m_X11_qJoins : sw_M := (yX11_qJoins, cX11_qJoins, 6, none, 11)
def m_X11_qPartOf : sw_M := (yX11_qPartOf, cX11_qPartOf, 3, some .long, 11)
def m_X11_qOf : sw_M := (yX11_qOf, cX11_qOf, 5, some .long, 11)
def m_X11_qTold : sw_M := (yX11_qTold, cX11_qTold, 4, some .long, 11)
def m_X11_qKind : sw_M := (yX11_qKind, cX11_qKind, 2, some .int, 11)
def m_X11_qTakes : sw_M := (yX11_qTakes, cX11_qTakes, 6, none, 11)
def m_X11_ask : sw_M := (yX11_ask, cX11_ask, 4, some .long, 11)
def m_X11_checked : sw_M := (yX11_checked, cX11_checked, 4, some .int, 11)
def m_X11_writes : sw_M := (yX11_writes, cX11_writes, 2, none, 11)
def m_X11_writesTwo : sw_M := (yX11_writesTwo, cX11_writesTwo, 2, none, 11)
def m_X11_image : sw_M := (yX11_image, cX11_image, 3, some .int, 11)
def m_X11_octet : sw_M := (yX11_octet, cX11_octet, 2, some .int, 11)
def m_X11_twoAt : sw_M := (yX11_twoAt, cX11_twoAt, 2, some .int, 11)
def m_X11_isSheepTold : sw_M := (yX11_isSheepTold, cX11_isSheepTold, 3, some .boolean, 11)
def m_X11_isImage : sw_M := (yX11_isImage, cX11_isImage, 5, some .boolean, 11)
def m_X11_on : sw_M := (yX11_on, cX11_on, 7, some .boolean, 11)
def m_X11_status : sw_M := (yX11_status, cX11_status, 2, some .int, 11)
def m_J6_bitCount_0f7a4 : sw_M := (yJ6_bitCount_0f7a4, cJ6_bitCount_0f7a4, 1, some .int, 12)
def m_J9_floorDiv_7cf53 : sw_M := (yJ9_floorDiv_7cf53, cJ9_floorDiv_7cf53, 3, some .int, 13)
def m_J9_max_7cf53 : sw_M := (yJ9_max_7cf53, cJ9_max_7cf53, 2, some .int, 13)
def m_J9_max_f86c9 : sw_M := (yJ9_max_f86c9, cJ9_max_f86c9, 4, some .long, 13)
def m_J9_min_7cf53 : sw_M := (yJ9_min_7cf53, cJ9_min_7cf53, 2, some .int, 13)
def m_J9_min_f86c9 : sw_M := (yJ9_min_f86c9, cJ9_min_f86c9, 4, some .long, 13)
def m_J7_fill_d0a16 : sw_M := (yJ7_fill_d0a16, cJ7_fill_d0a16, 5, none, 14)
def m_J7_fill_53178 : sw_M := (yJ7_fill_53178, cJ7_fill_53178, 4, none, 14)
def sw_mV0 : List (sw_M × Nat × Nat × Nat × Nat) := [(m_X0_emit, 223, 129, 221, 222), (m_X1_look, 948, 135, 946, 947), (m_X1_daysAtMost, 975, 135, 973, 974), (m_X1_daysToHome, 971, 135, 969, 970), (m_X1_fewestChanges, 984, 135, 982, 983), (m_X1_tryDays, 988, 135, 987, 24), (m_X1_tryThrough, 999, 135, 998, 25), (m_X1_isFewer, 992, 135, 990, 991), (m_X1_bestRumour, 1009, 135, 1007, 1008), (m_X1_fewestMiles, 1017, 135, 1015, 1016), (m_X1_shorten, 1022, 135, 1020, 1021), (m_X1_bestWait, 1030, 135, 1028, 1029), (m_X1_leastCoat, 1039, 135, 1037, 1038), (m_X1_milesOf, 1043, 135, 1041, 1042), (m_X1_leastWatch, 1051, 135, 1049, 1050), (m_X1_fillNear, 1055, 135, 1053, 1054), (m_X1_watches, 1059, 135, 1057, 1058), (m_X1_countWays, 1068, 135, 1066, 1067), (m_X1_leadEnds, 1075, 135, 1073, 1074), (m_X1_takeFelt, 1083, 135, 1081, 1082), (m_X1_fillCrimps, 1091, 135, 1089, 1090), (m_X1_curiousBits, 1095, 135, 1093, 1094), (m_X1_curiousBy, 1099, 135, 1097, 1098), (m_X1_telling, 1107, 135, 1105, 1106), (m_X1_mostLeft, 1111, 135, 1109, 1110), (m_X2_setSheep, 875, 132, 873, 874), (m_X2_setField, 879, 132, 877, 878), (m_X2_leads, 1135, 132, 1133, 1134), (m_X2_choice, 867, 132, 865, 866), (m_X2_luring, 871, 132, 869, 870), (m_X2_mostLuring, 918, 132, 916, 917), (m_X2_pullBy, 914, 132, 912, 913), (m_X2_passThrough, 963, 132, 961, 962), (m_X2_passDay, 1152, 132, 1150, 1151), (m_X2_goOn, 959, 132, 957, 958), (m_X2_worthOf, 926, 132, 924, 925), (m_X2_answer, 1196, 132, 1194, 1195), (m_X2_questionOf, 1201, 132, 1199, 1200), (m_X3_readUpland, 624, 131, 622, 623), (m_X3_readQuestion, 1192, 131, 1190, 1191)]
set_option maxRecDepth 1000000 in
theorem sw_mV0k : sw_mV0.all sw_ckV = true := by decide +kernel
set_option maxRecDepth 100000 in
theorem mk_X0_emit : sw_okV m_X0_emit := sw_ckV_in sw_mV0k 0 rfl (sw_T_of (sw_t1 (List.mem_of_getElem? (i := 97) rfl)) rfl)
set_option maxRecDepth 100000 in
theorem mk_X1_look : sw_okV m_X1_look := sw_ckV_in sw_mV0k 1 rfl (sw_T_of (sw_t4 (List.mem_of_getElem? (i := 102) rfl)) rfl)
set_option maxRecDepth 100000 in
theorem mk_X1_daysAtMost : sw_okV m_X1_daysAtMost := sw_ckV_in sw_mV0k 2 rfl (sw_T_of (sw_t4 (List.mem_of_getElem? (i := 129) rfl)) rfl)
set_option maxRecDepth 100000 in
theorem mk_X1_daysToHome : sw_okV m_X1_daysToHome := sw_ckV_in sw_mV0k 3 rfl (sw_T_of (sw_t4 (List.mem_of_getElem? (i := 125) rfl)) rfl)
set_option maxRecDepth 100000 in
theorem mk_X1_fewestChanges : sw_okV m_X1_fewestChanges := sw_ckV_in sw_mV0k 4 rfl (sw_T_of (sw_t4 (List.mem_of_getElem? (i := 138) rfl)) rfl)
set_option maxRecDepth 100000 in
theorem mk_X1_tryDays : sw_okV m_X1_tryDays := sw_ckV_in sw_mV0k 5 rfl (sw_T_of (sw_t4 (List.mem_of_getElem? (i := 142) rfl)) rfl)
set_option maxRecDepth 100000 in
theorem mk_X1_tryThrough : sw_okV m_X1_tryThrough := sw_ckV_in sw_mV0k 6 rfl (sw_T_of (sw_t4 (List.mem_of_getElem? (i := 153) rfl)) rfl)
set_option maxRecDepth 100000 in
theorem mk_X1_isFewer : sw_okV m_X1_isFewer := sw_ckV_in sw_mV0k 7 rfl (sw_T_of (sw_t4 (List.mem_of_getElem? (i := 146) rfl)) rfl)
set_option maxRecDepth 100000 in
theorem mk_X1_bestRumour : sw_okV m_X1_bestRumour := sw_ckV_in sw_mV0k 8 rfl (sw_T_of (sw_t4 (List.mem_of_getElem? (i := 163) rfl)) rfl)
set_option maxRecDepth 100000 in
theorem mk_X1_fewestMiles : sw_okV m_X1_fewestMiles := sw_ckV_in sw_mV0k 9 rfl (sw_T_of (sw_t4 (List.mem_of_getElem? (i := 171) rfl)) rfl)
set_option maxRecDepth 100000 in
theorem mk_X1_shorten : sw_okV m_X1_shorten := sw_ckV_in sw_mV0k 10 rfl (sw_T_of (sw_t4 (List.mem_of_getElem? (i := 176) rfl)) rfl)
set_option maxRecDepth 100000 in
theorem mk_X1_bestWait : sw_okV m_X1_bestWait := sw_ckV_in sw_mV0k 11 rfl (sw_T_of (sw_t4 (List.mem_of_getElem? (i := 184) rfl)) rfl)
set_option maxRecDepth 100000 in
theorem mk_X1_leastCoat : sw_okV m_X1_leastCoat := sw_ckV_in sw_mV0k 12 rfl (sw_T_of (sw_t4 (List.mem_of_getElem? (i := 193) rfl)) rfl)
set_option maxRecDepth 100000 in
theorem mk_X1_milesOf : sw_okV m_X1_milesOf := sw_ckV_in sw_mV0k 13 rfl (sw_T_of (sw_t4 (List.mem_of_getElem? (i := 197) rfl)) rfl)
set_option maxRecDepth 100000 in
theorem mk_X1_leastWatch : sw_okV m_X1_leastWatch := sw_ckV_in sw_mV0k 14 rfl (sw_T_of (sw_t4 (List.mem_of_getElem? (i := 205) rfl)) rfl)
set_option maxRecDepth 100000 in
theorem mk_X1_fillNear : sw_okV m_X1_fillNear := sw_ckV_in sw_mV0k 15 rfl (sw_T_of (sw_t4 (List.mem_of_getElem? (i := 209) rfl)) rfl)
set_option maxRecDepth 100000 in
theorem mk_X1_watches : sw_okV m_X1_watches := sw_ckV_in sw_mV0k 16 rfl (sw_T_of (sw_t4 (List.mem_of_getElem? (i := 213) rfl)) rfl)
set_option maxRecDepth 100000 in
theorem mk_X1_countWays : sw_okV m_X1_countWays := sw_ckV_in sw_mV0k 17 rfl (sw_T_of (sw_t4 (List.mem_of_getElem? (i := 222) rfl)) rfl)
set_option maxRecDepth 100000 in
theorem mk_X1_leadEnds : sw_okV m_X1_leadEnds := sw_ckV_in sw_mV0k 18 rfl (sw_T_of (sw_t4 (List.mem_of_getElem? (i := 229) rfl)) rfl)
set_option maxRecDepth 100000 in
theorem mk_X1_takeFelt : sw_okV m_X1_takeFelt := sw_ckV_in sw_mV0k 19 rfl (sw_T_of (sw_t4 (List.mem_of_getElem? (i := 237) rfl)) rfl)
set_option maxRecDepth 100000 in
theorem mk_X1_fillCrimps : sw_okV m_X1_fillCrimps := sw_ckV_in sw_mV0k 20 rfl (sw_T_of (sw_t5 (List.mem_of_getElem? (i := 5) rfl)) rfl)
set_option maxRecDepth 100000 in
theorem mk_X1_curiousBits : sw_okV m_X1_curiousBits := sw_ckV_in sw_mV0k 21 rfl (sw_T_of (sw_t5 (List.mem_of_getElem? (i := 9) rfl)) rfl)
set_option maxRecDepth 100000 in
theorem mk_X1_curiousBy : sw_okV m_X1_curiousBy := sw_ckV_in sw_mV0k 22 rfl (sw_T_of (sw_t5 (List.mem_of_getElem? (i := 13) rfl)) rfl)
set_option maxRecDepth 100000 in
theorem mk_X1_telling : sw_okV m_X1_telling := sw_ckV_in sw_mV0k 23 rfl (sw_T_of (sw_t5 (List.mem_of_getElem? (i := 21) rfl)) rfl)
set_option maxRecDepth 100000 in
theorem mk_X1_mostLeft : sw_okV m_X1_mostLeft := sw_ckV_in sw_mV0k 24 rfl (sw_T_of (sw_t5 (List.mem_of_getElem? (i := 25) rfl)) rfl)
set_option maxRecDepth 100000 in
theorem mk_X2_setSheep : sw_okV m_X2_setSheep := sw_ckV_in sw_mV0k 25 rfl (sw_T_of (sw_t4 (List.mem_of_getElem? (i := 29) rfl)) rfl)
set_option maxRecDepth 100000 in
theorem mk_X2_setField : sw_okV m_X2_setField := sw_ckV_in sw_mV0k 26 rfl (sw_T_of (sw_t4 (List.mem_of_getElem? (i := 33) rfl)) rfl)
set_option maxRecDepth 100000 in
theorem mk_X2_leads : sw_okV m_X2_leads := sw_ckV_in sw_mV0k 27 rfl (sw_T_of (sw_t5 (List.mem_of_getElem? (i := 49) rfl)) rfl)
set_option maxRecDepth 100000 in
theorem mk_X2_choice : sw_okV m_X2_choice := sw_ckV_in sw_mV0k 28 rfl (sw_T_of (sw_t4 (List.mem_of_getElem? (i := 21) rfl)) rfl)
set_option maxRecDepth 100000 in
theorem mk_X2_luring : sw_okV m_X2_luring := sw_ckV_in sw_mV0k 29 rfl (sw_T_of (sw_t4 (List.mem_of_getElem? (i := 25) rfl)) rfl)
set_option maxRecDepth 100000 in
theorem mk_X2_mostLuring : sw_okV m_X2_mostLuring := sw_ckV_in sw_mV0k 30 rfl (sw_T_of (sw_t4 (List.mem_of_getElem? (i := 72) rfl)) rfl)
set_option maxRecDepth 100000 in
theorem mk_X2_pullBy : sw_okV m_X2_pullBy := sw_ckV_in sw_mV0k 31 rfl (sw_T_of (sw_t4 (List.mem_of_getElem? (i := 68) rfl)) rfl)
set_option maxRecDepth 100000 in
theorem mk_X2_passThrough : sw_okV m_X2_passThrough := sw_ckV_in sw_mV0k 32 rfl (sw_T_of (sw_t4 (List.mem_of_getElem? (i := 117) rfl)) rfl)
set_option maxRecDepth 100000 in
theorem mk_X2_passDay : sw_okV m_X2_passDay := sw_ckV_in sw_mV0k 33 rfl (sw_T_of (sw_t5 (List.mem_of_getElem? (i := 66) rfl)) rfl)
set_option maxRecDepth 100000 in
theorem mk_X2_goOn : sw_okV m_X2_goOn := sw_ckV_in sw_mV0k 34 rfl (sw_T_of (sw_t4 (List.mem_of_getElem? (i := 113) rfl)) rfl)
set_option maxRecDepth 100000 in
theorem mk_X2_worthOf : sw_okV m_X2_worthOf := sw_ckV_in sw_mV0k 35 rfl (sw_T_of (sw_t4 (List.mem_of_getElem? (i := 80) rfl)) rfl)
set_option maxRecDepth 100000 in
theorem mk_X2_answer : sw_okV m_X2_answer := sw_ckV_in sw_mV0k 36 rfl (sw_T_of (sw_t5 (List.mem_of_getElem? (i := 110) rfl)) rfl)
set_option maxRecDepth 100000 in
theorem mk_X2_questionOf : sw_okV m_X2_questionOf := sw_ckV_in sw_mV0k 37 rfl (sw_T_of (sw_t5 (List.mem_of_getElem? (i := 115) rfl)) rfl)
set_option maxRecDepth 100000 in
theorem mk_X3_readUpland : sw_okV m_X3_readUpland := sw_ckV_in sw_mV0k 38 rfl (sw_T_of (sw_t3 (List.mem_of_getElem? (i := 18) rfl)) rfl)
set_option maxRecDepth 100000 in
theorem mk_X3_readQuestion : sw_okV m_X3_readQuestion := sw_ckV_in sw_mV0k 39 rfl (sw_T_of (sw_t5 (List.mem_of_getElem? (i := 106) rfl)) rfl)
def sw_mV1 : List (sw_M × Nat × Nat × Nat × Nat) := [(m_X3_statement, 705, 131, 704, 3), (m_X3_fieldStatement, 709, 131, 708, 4), (m_X3_gapStatement, 739, 131, 738, 6), (m_X3_shutStatement, 747, 131, 746, 8), (m_X3_sheepStatement, 751, 131, 750, 9), (m_X3_beginFormula, 755, 131, 754, 10), (m_X3_endFormula, 779, 131, 778, 15), (m_X3_stormStatement, 798, 131, 797, 19), (m_X3_newName, 714, 131, 713, 5), (m_X3_knownField, 743, 131, 742, 7), (m_X3_test, 783, 131, 782, 16), (m_X3_both, 787, 131, 786, 17), (m_X3_fact, 791, 131, 790, 18), (m_X3_opens, 772, 131, 771, 14), (m_X3_sum, 759, 131, 758, 11), (m_X3_product, 763, 131, 762, 12), (m_X3_part, 767, 131, 766, 13), (m_X4_clear, 809, 136, 807, 808), (m_X4_remember, 1120, 136, 1118, 1119), (m_X4_restore, 1180, 136, 1178, 1179), (m_X5_write, 1219, 137, 1217, 1218), (m_X5_put, 1223, 137, 1221, 1222), (m_X5_read, 1238, 137, 1236, 1237), (m_X5_take, 1242, 137, 1240, 1241), (m_X6_open, 629, 128, 627, 628), (m_X6_advance, 636, 128, 634, 635), (m_X6_isLetter, 640, 128, 638, 639), (m_X6_isDigit, 697, 128, 695, 696), (m_X6_wordKind, 644, 128, 642, 643), (m_X6_fail, 701, 128, 699, 700), (m_X6_expect, 731, 128, 729, 730), (m_X6_takeNumber, 735, 128, 733, 734), (m_X6_takeName, 718, 128, 716, 717), (m_X7_run, 883, 133, 881, 882), (m_X7_step, 887, 133, 885, 886), (m_X7_push, 891, 133, 889, 890), (m_X7_pop, 899, 133, 897, 898), (m_X8_begin, 802, 134, 800, 801), (m_X8_copyFrom, 1124, 134, 1122, 1123), (m_X8_copyOne, 952, 134, 950, 951)]
set_option maxRecDepth 1000000 in
theorem sw_mV1k : sw_mV1.all sw_ckV = true := by decide +kernel
set_option maxRecDepth 100000 in
theorem mk_X3_statement : sw_okV m_X3_statement := sw_ckV_in sw_mV1k 0 rfl (sw_T_of (sw_t3 (List.mem_of_getElem? (i := 99) rfl)) rfl)
set_option maxRecDepth 100000 in
theorem mk_X3_fieldStatement : sw_okV m_X3_fieldStatement := sw_ckV_in sw_mV1k 1 rfl (sw_T_of (sw_t3 (List.mem_of_getElem? (i := 103) rfl)) rfl)
set_option maxRecDepth 100000 in
theorem mk_X3_gapStatement : sw_okV m_X3_gapStatement := sw_ckV_in sw_mV1k 2 rfl (sw_T_of (sw_t3 (List.mem_of_getElem? (i := 133) rfl)) rfl)
set_option maxRecDepth 100000 in
theorem mk_X3_shutStatement : sw_okV m_X3_shutStatement := sw_ckV_in sw_mV1k 3 rfl (sw_T_of (sw_t3 (List.mem_of_getElem? (i := 141) rfl)) rfl)
set_option maxRecDepth 100000 in
theorem mk_X3_sheepStatement : sw_okV m_X3_sheepStatement := sw_ckV_in sw_mV1k 4 rfl (sw_T_of (sw_t3 (List.mem_of_getElem? (i := 145) rfl)) rfl)
set_option maxRecDepth 100000 in
theorem mk_X3_beginFormula : sw_okV m_X3_beginFormula := sw_ckV_in sw_mV1k 5 rfl (sw_T_of (sw_t3 (List.mem_of_getElem? (i := 149) rfl)) rfl)
set_option maxRecDepth 100000 in
theorem mk_X3_endFormula : sw_okV m_X3_endFormula := sw_ckV_in sw_mV1k 6 rfl (sw_T_of (sw_t3 (List.mem_of_getElem? (i := 173) rfl)) rfl)
set_option maxRecDepth 100000 in
theorem mk_X3_stormStatement : sw_okV m_X3_stormStatement := sw_ckV_in sw_mV1k 7 rfl (sw_T_of (sw_t3 (List.mem_of_getElem? (i := 192) rfl)) rfl)
set_option maxRecDepth 100000 in
theorem mk_X3_newName : sw_okV m_X3_newName := sw_ckV_in sw_mV1k 8 rfl (sw_T_of (sw_t3 (List.mem_of_getElem? (i := 108) rfl)) rfl)
set_option maxRecDepth 100000 in
theorem mk_X3_knownField : sw_okV m_X3_knownField := sw_ckV_in sw_mV1k 9 rfl (sw_T_of (sw_t3 (List.mem_of_getElem? (i := 137) rfl)) rfl)
set_option maxRecDepth 100000 in
theorem mk_X3_test : sw_okV m_X3_test := sw_ckV_in sw_mV1k 10 rfl (sw_T_of (sw_t3 (List.mem_of_getElem? (i := 177) rfl)) rfl)
set_option maxRecDepth 100000 in
theorem mk_X3_both : sw_okV m_X3_both := sw_ckV_in sw_mV1k 11 rfl (sw_T_of (sw_t3 (List.mem_of_getElem? (i := 181) rfl)) rfl)
set_option maxRecDepth 100000 in
theorem mk_X3_fact : sw_okV m_X3_fact := sw_ckV_in sw_mV1k 12 rfl (sw_T_of (sw_t3 (List.mem_of_getElem? (i := 185) rfl)) rfl)
set_option maxRecDepth 100000 in
theorem mk_X3_opens : sw_okV m_X3_opens := sw_ckV_in sw_mV1k 13 rfl (sw_T_of (sw_t3 (List.mem_of_getElem? (i := 166) rfl)) rfl)
set_option maxRecDepth 100000 in
theorem mk_X3_sum : sw_okV m_X3_sum := sw_ckV_in sw_mV1k 14 rfl (sw_T_of (sw_t3 (List.mem_of_getElem? (i := 153) rfl)) rfl)
set_option maxRecDepth 100000 in
theorem mk_X3_product : sw_okV m_X3_product := sw_ckV_in sw_mV1k 15 rfl (sw_T_of (sw_t3 (List.mem_of_getElem? (i := 157) rfl)) rfl)
set_option maxRecDepth 100000 in
theorem mk_X3_part : sw_okV m_X3_part := sw_ckV_in sw_mV1k 16 rfl (sw_T_of (sw_t3 (List.mem_of_getElem? (i := 161) rfl)) rfl)
set_option maxRecDepth 100000 in
theorem mk_X4_clear : sw_okV m_X4_clear := sw_ckV_in sw_mV1k 17 rfl (sw_T_of (sw_t3 (List.mem_of_getElem? (i := 203) rfl)) rfl)
set_option maxRecDepth 100000 in
theorem mk_X4_remember : sw_okV m_X4_remember := sw_ckV_in sw_mV1k 18 rfl (sw_T_of (sw_t5 (List.mem_of_getElem? (i := 34) rfl)) rfl)
set_option maxRecDepth 100000 in
theorem mk_X4_restore : sw_okV m_X4_restore := sw_ckV_in sw_mV1k 19 rfl (sw_T_of (sw_t5 (List.mem_of_getElem? (i := 94) rfl)) rfl)
set_option maxRecDepth 100000 in
theorem mk_X5_write : sw_okV m_X5_write := sw_ckV_in sw_mV1k 20 rfl (sw_T_of (sw_t5 (List.mem_of_getElem? (i := 133) rfl)) rfl)
set_option maxRecDepth 100000 in
theorem mk_X5_put : sw_okV m_X5_put := sw_ckV_in sw_mV1k 21 rfl (sw_T_of (sw_t5 (List.mem_of_getElem? (i := 137) rfl)) rfl)
set_option maxRecDepth 100000 in
theorem mk_X5_read : sw_okV m_X5_read := sw_ckV_in sw_mV1k 22 rfl (sw_T_of (sw_t5 (List.mem_of_getElem? (i := 152) rfl)) rfl)
set_option maxRecDepth 100000 in
theorem mk_X5_take : sw_okV m_X5_take := sw_ckV_in sw_mV1k 23 rfl (sw_T_of (sw_t5 (List.mem_of_getElem? (i := 156) rfl)) rfl)
set_option maxRecDepth 100000 in
theorem mk_X6_open : sw_okV m_X6_open := sw_ckV_in sw_mV1k 24 rfl (sw_T_of (sw_t3 (List.mem_of_getElem? (i := 23) rfl)) rfl)
set_option maxRecDepth 100000 in
theorem mk_X6_advance : sw_okV m_X6_advance := sw_ckV_in sw_mV1k 25 rfl (sw_T_of (sw_t3 (List.mem_of_getElem? (i := 30) rfl)) rfl)
set_option maxRecDepth 100000 in
theorem mk_X6_isLetter : sw_okV m_X6_isLetter := sw_ckV_in sw_mV1k 26 rfl (sw_T_of (sw_t3 (List.mem_of_getElem? (i := 34) rfl)) rfl)
set_option maxRecDepth 100000 in
theorem mk_X6_isDigit : sw_okV m_X6_isDigit := sw_ckV_in sw_mV1k 27 rfl (sw_T_of (sw_t3 (List.mem_of_getElem? (i := 91) rfl)) rfl)
set_option maxRecDepth 100000 in
theorem mk_X6_wordKind : sw_okV m_X6_wordKind := sw_ckV_in sw_mV1k 28 rfl (sw_T_of (sw_t3 (List.mem_of_getElem? (i := 38) rfl)) rfl)
set_option maxRecDepth 100000 in
theorem mk_X6_fail : sw_okV m_X6_fail := sw_ckV_in sw_mV1k 29 rfl (sw_T_of (sw_t3 (List.mem_of_getElem? (i := 95) rfl)) rfl)
set_option maxRecDepth 100000 in
theorem mk_X6_expect : sw_okV m_X6_expect := sw_ckV_in sw_mV1k 30 rfl (sw_T_of (sw_t3 (List.mem_of_getElem? (i := 125) rfl)) rfl)
set_option maxRecDepth 100000 in
theorem mk_X6_takeNumber : sw_okV m_X6_takeNumber := sw_ckV_in sw_mV1k 31 rfl (sw_T_of (sw_t3 (List.mem_of_getElem? (i := 129) rfl)) rfl)
set_option maxRecDepth 100000 in
theorem mk_X6_takeName : sw_okV m_X6_takeName := sw_ckV_in sw_mV1k 32 rfl (sw_T_of (sw_t3 (List.mem_of_getElem? (i := 112) rfl)) rfl)
set_option maxRecDepth 100000 in
theorem mk_X7_run : sw_okV m_X7_run := sw_ckV_in sw_mV1k 33 rfl (sw_T_of (sw_t4 (List.mem_of_getElem? (i := 37) rfl)) rfl)
set_option maxRecDepth 100000 in
theorem mk_X7_step : sw_okV m_X7_step := sw_ckV_in sw_mV1k 34 rfl (sw_T_of (sw_t4 (List.mem_of_getElem? (i := 41) rfl)) rfl)
set_option maxRecDepth 100000 in
theorem mk_X7_push : sw_okV m_X7_push := sw_ckV_in sw_mV1k 35 rfl (sw_T_of (sw_t4 (List.mem_of_getElem? (i := 45) rfl)) rfl)
set_option maxRecDepth 100000 in
theorem mk_X7_pop : sw_okV m_X7_pop := sw_ckV_in sw_mV1k 36 rfl (sw_T_of (sw_t4 (List.mem_of_getElem? (i := 53) rfl)) rfl)
set_option maxRecDepth 100000 in
theorem mk_X8_begin : sw_okV m_X8_begin := sw_ckV_in sw_mV1k 37 rfl (sw_T_of (sw_t3 (List.mem_of_getElem? (i := 196) rfl)) rfl)
set_option maxRecDepth 100000 in
theorem mk_X8_copyFrom : sw_okV m_X8_copyFrom := sw_ckV_in sw_mV1k 38 rfl (sw_T_of (sw_t5 (List.mem_of_getElem? (i := 38) rfl)) rfl)
set_option maxRecDepth 100000 in
theorem mk_X8_copyOne : sw_okV m_X8_copyOne := sw_ckV_in sw_mV1k 39 rfl (sw_T_of (sw_t4 (List.mem_of_getElem? (i := 106) rfl)) rfl)
def sw_mV2 : List (sw_M × Nat × Nat × Nat × Nat) := [(m_X8_allMiles, 827, 134, 825, 826), (m_X8_keep, 1157, 134, 1155, 1156), (m_X8_keptPart, 936, 134, 934, 935), (m_X9_clear, 219, 130, 217, 218), (m_X9_setFormula, 227, 130, 225, 226), (m_X9_fieldNamed, 723, 130, 721, 722), (m_X9_sheepNamed, 727, 130, 725, 726), (m_X9_beyond, 910, 130, 908, 909), (m_X10_feed, 600, 127, 598, 599), (m_X10_end, 612, 127, 610, 611), (m_X10_upland, 616, 127, 614, 615), (m_X10_fault, 813, 127, 811, 812), (m_X10_has, 817, 127, 815, 816), (m_X10_letter, 831, 127, 829, 830), (m_X10_lure, 843, 127, 841, 842), (m_X10_gap, 847, 127, 845, 846), (m_X10_sheep, 855, 127, 853, 854), (m_X10_seen, 859, 127, 857, 858), (m_X10_strays, 863, 127, 861, 862), (m_X10_brings, 922, 127, 920, 921), (m_X10_kept, 932, 127, 930, 931), (m_X10_later, 940, 127, 938, 939), (m_X10_home, 967, 127, 965, 966), (m_X10_gaps, 980, 127, 978, 979), (m_X10_rumour, 1005, 127, 1003, 1004), (m_X10_way, 1013, 127, 1011, 1012), (m_X10_waits, 1026, 127, 1024, 1025), (m_X10_coat, 1035, 127, 1033, 1034), (m_X10_watch, 1047, 127, 1045, 1046), (m_X10_ways, 1063, 127, 1061, 1062), (m_X10_feel, 1079, 127, 1077, 1078), (m_X10_curious, 1087, 127, 1085, 1086), (m_X10_tells, 1103, 127, 1101, 1102), (m_X10_shear, 1116, 127, 1114, 1115), (m_X10_lead, 1131, 127, 1129, 1130), (m_X10_swing, 1140, 127, 1138, 1139), (m_X10_tell, 1144, 127, 1142, 1143), (m_X10_days, 1148, 127, 1146, 1147), (m_X10_chance, 1161, 127, 1159, 1160), (m_X10_undo, 1176, 127, 1174, 1175)]
set_option maxRecDepth 1000000 in
theorem sw_mV2k : sw_mV2.all sw_ckV = true := by decide +kernel
set_option maxRecDepth 100000 in
theorem mk_X8_allMiles : sw_okV m_X8_allMiles := sw_ckV_in sw_mV2k 0 rfl (sw_T_of (sw_t3 (List.mem_of_getElem? (i := 221) rfl)) rfl)
set_option maxRecDepth 100000 in
theorem mk_X8_keep : sw_okV m_X8_keep := sw_ckV_in sw_mV2k 1 rfl (sw_T_of (sw_t5 (List.mem_of_getElem? (i := 71) rfl)) rfl)
set_option maxRecDepth 100000 in
theorem mk_X8_keptPart : sw_okV m_X8_keptPart := sw_ckV_in sw_mV2k 2 rfl (sw_T_of (sw_t4 (List.mem_of_getElem? (i := 90) rfl)) rfl)
set_option maxRecDepth 100000 in
theorem mk_X9_clear : sw_okV m_X9_clear := sw_ckV_in sw_mV2k 3 rfl (sw_T_of (sw_t1 (List.mem_of_getElem? (i := 93) rfl)) rfl)
set_option maxRecDepth 100000 in
theorem mk_X9_setFormula : sw_okV m_X9_setFormula := sw_ckV_in sw_mV2k 4 rfl (sw_T_of (sw_t1 (List.mem_of_getElem? (i := 101) rfl)) rfl)
set_option maxRecDepth 100000 in
theorem mk_X9_fieldNamed : sw_okV m_X9_fieldNamed := sw_ckV_in sw_mV2k 5 rfl (sw_T_of (sw_t3 (List.mem_of_getElem? (i := 117) rfl)) rfl)
set_option maxRecDepth 100000 in
theorem mk_X9_sheepNamed : sw_okV m_X9_sheepNamed := sw_ckV_in sw_mV2k 6 rfl (sw_T_of (sw_t3 (List.mem_of_getElem? (i := 121) rfl)) rfl)
set_option maxRecDepth 100000 in
theorem mk_X9_beyond : sw_okV m_X9_beyond := sw_ckV_in sw_mV2k 7 rfl (sw_T_of (sw_t4 (List.mem_of_getElem? (i := 64) rfl)) rfl)
set_option maxRecDepth 100000 in
theorem mk_X10_feed : sw_okV m_X10_feed := sw_ckV_in sw_mV2k 8 rfl (sw_T_of (sw_t2 (List.mem_of_getElem? (i := 234) rfl)) rfl)
set_option maxRecDepth 100000 in
theorem mk_X10_end : sw_okV m_X10_end := sw_ckV_in sw_mV2k 9 rfl (sw_T_of (sw_t3 (List.mem_of_getElem? (i := 6) rfl)) rfl)
set_option maxRecDepth 100000 in
theorem mk_X10_upland : sw_okV m_X10_upland := sw_ckV_in sw_mV2k 10 rfl (sw_T_of (sw_t3 (List.mem_of_getElem? (i := 10) rfl)) rfl)
set_option maxRecDepth 100000 in
theorem mk_X10_fault : sw_okV m_X10_fault := sw_ckV_in sw_mV2k 11 rfl (sw_T_of (sw_t3 (List.mem_of_getElem? (i := 207) rfl)) rfl)
set_option maxRecDepth 100000 in
theorem mk_X10_has : sw_okV m_X10_has := sw_ckV_in sw_mV2k 12 rfl (sw_T_of (sw_t3 (List.mem_of_getElem? (i := 211) rfl)) rfl)
set_option maxRecDepth 100000 in
theorem mk_X10_letter : sw_okV m_X10_letter := sw_ckV_in sw_mV2k 13 rfl (sw_T_of (sw_t3 (List.mem_of_getElem? (i := 225) rfl)) rfl)
set_option maxRecDepth 100000 in
theorem mk_X10_lure : sw_okV m_X10_lure := sw_ckV_in sw_mV2k 14 rfl (sw_T_of (sw_t3 (List.mem_of_getElem? (i := 237) rfl)) rfl)
set_option maxRecDepth 100000 in
theorem mk_X10_gap : sw_okV m_X10_gap := sw_ckV_in sw_mV2k 15 rfl (sw_T_of (sw_t4 (List.mem_of_getElem? (i := 1) rfl)) rfl)
set_option maxRecDepth 100000 in
theorem mk_X10_sheep : sw_okV m_X10_sheep := sw_ckV_in sw_mV2k 16 rfl (sw_T_of (sw_t4 (List.mem_of_getElem? (i := 9) rfl)) rfl)
set_option maxRecDepth 100000 in
theorem mk_X10_seen : sw_okV m_X10_seen := sw_ckV_in sw_mV2k 17 rfl (sw_T_of (sw_t4 (List.mem_of_getElem? (i := 13) rfl)) rfl)
set_option maxRecDepth 100000 in
theorem mk_X10_strays : sw_okV m_X10_strays := sw_ckV_in sw_mV2k 18 rfl (sw_T_of (sw_t4 (List.mem_of_getElem? (i := 17) rfl)) rfl)
set_option maxRecDepth 100000 in
theorem mk_X10_brings : sw_okV m_X10_brings := sw_ckV_in sw_mV2k 19 rfl (sw_T_of (sw_t4 (List.mem_of_getElem? (i := 76) rfl)) rfl)
set_option maxRecDepth 100000 in
theorem mk_X10_kept : sw_okV m_X10_kept := sw_ckV_in sw_mV2k 20 rfl (sw_T_of (sw_t4 (List.mem_of_getElem? (i := 86) rfl)) rfl)
set_option maxRecDepth 100000 in
theorem mk_X10_later : sw_okV m_X10_later := sw_ckV_in sw_mV2k 21 rfl (sw_T_of (sw_t4 (List.mem_of_getElem? (i := 94) rfl)) rfl)
set_option maxRecDepth 100000 in
theorem mk_X10_home : sw_okV m_X10_home := sw_ckV_in sw_mV2k 22 rfl (sw_T_of (sw_t4 (List.mem_of_getElem? (i := 121) rfl)) rfl)
set_option maxRecDepth 100000 in
theorem mk_X10_gaps : sw_okV m_X10_gaps := sw_ckV_in sw_mV2k 23 rfl (sw_T_of (sw_t4 (List.mem_of_getElem? (i := 134) rfl)) rfl)
set_option maxRecDepth 100000 in
theorem mk_X10_rumour : sw_okV m_X10_rumour := sw_ckV_in sw_mV2k 24 rfl (sw_T_of (sw_t4 (List.mem_of_getElem? (i := 159) rfl)) rfl)
set_option maxRecDepth 100000 in
theorem mk_X10_way : sw_okV m_X10_way := sw_ckV_in sw_mV2k 25 rfl (sw_T_of (sw_t4 (List.mem_of_getElem? (i := 167) rfl)) rfl)
set_option maxRecDepth 100000 in
theorem mk_X10_waits : sw_okV m_X10_waits := sw_ckV_in sw_mV2k 26 rfl (sw_T_of (sw_t4 (List.mem_of_getElem? (i := 180) rfl)) rfl)
set_option maxRecDepth 100000 in
theorem mk_X10_coat : sw_okV m_X10_coat := sw_ckV_in sw_mV2k 27 rfl (sw_T_of (sw_t4 (List.mem_of_getElem? (i := 189) rfl)) rfl)
set_option maxRecDepth 100000 in
theorem mk_X10_watch : sw_okV m_X10_watch := sw_ckV_in sw_mV2k 28 rfl (sw_T_of (sw_t4 (List.mem_of_getElem? (i := 201) rfl)) rfl)
set_option maxRecDepth 100000 in
theorem mk_X10_ways : sw_okV m_X10_ways := sw_ckV_in sw_mV2k 29 rfl (sw_T_of (sw_t4 (List.mem_of_getElem? (i := 217) rfl)) rfl)
set_option maxRecDepth 100000 in
theorem mk_X10_feel : sw_okV m_X10_feel := sw_ckV_in sw_mV2k 30 rfl (sw_T_of (sw_t4 (List.mem_of_getElem? (i := 233) rfl)) rfl)
set_option maxRecDepth 100000 in
theorem mk_X10_curious : sw_okV m_X10_curious := sw_ckV_in sw_mV2k 31 rfl (sw_T_of (sw_t5 (List.mem_of_getElem? (i := 1) rfl)) rfl)
set_option maxRecDepth 100000 in
theorem mk_X10_tells : sw_okV m_X10_tells := sw_ckV_in sw_mV2k 32 rfl (sw_T_of (sw_t5 (List.mem_of_getElem? (i := 17) rfl)) rfl)
set_option maxRecDepth 100000 in
theorem mk_X10_shear : sw_okV m_X10_shear := sw_ckV_in sw_mV2k 33 rfl (sw_T_of (sw_t5 (List.mem_of_getElem? (i := 30) rfl)) rfl)
set_option maxRecDepth 100000 in
theorem mk_X10_lead : sw_okV m_X10_lead := sw_ckV_in sw_mV2k 34 rfl (sw_T_of (sw_t5 (List.mem_of_getElem? (i := 45) rfl)) rfl)
set_option maxRecDepth 100000 in
theorem mk_X10_swing : sw_okV m_X10_swing := sw_ckV_in sw_mV2k 35 rfl (sw_T_of (sw_t5 (List.mem_of_getElem? (i := 54) rfl)) rfl)
set_option maxRecDepth 100000 in
theorem mk_X10_tell : sw_okV m_X10_tell := sw_ckV_in sw_mV2k 36 rfl (sw_T_of (sw_t5 (List.mem_of_getElem? (i := 58) rfl)) rfl)
set_option maxRecDepth 100000 in
theorem mk_X10_days : sw_okV m_X10_days := sw_ckV_in sw_mV2k 37 rfl (sw_T_of (sw_t5 (List.mem_of_getElem? (i := 62) rfl)) rfl)
set_option maxRecDepth 100000 in
theorem mk_X10_chance : sw_okV m_X10_chance := sw_ckV_in sw_mV2k 38 rfl (sw_T_of (sw_t5 (List.mem_of_getElem? (i := 75) rfl)) rfl)
set_option maxRecDepth 100000 in
theorem mk_X10_undo : sw_okV m_X10_undo := sw_ckV_in sw_mV2k 39 rfl (sw_T_of (sw_t5 (List.mem_of_getElem? (i := 90) rfl)) rfl)
def sw_mV3 : List (sw_M × Nat × Nat × Nat × Nat) := [(m_X10_seed, 1184, 127, 1182, 1183), (m_X10_ask, 1188, 127, 1186, 1187), (m_X10_image, 1215, 127, 1213, 1214), (m_X10_octet, 1230, 127, 1228, 1229), (m_X10_on, 1234, 127, 1232, 1233), (m_X10_status, 1248, 127, 1246, 1247), (m_X10_refuse, 604, 127, 603, 0), (m_X10_putBytes, 608, 127, 607, 1), (m_X10_takeTape, 620, 127, 619, 2), (m_X10_isField, 835, 127, 834, 20), (m_X10_isGap, 851, 127, 850, 22), (m_X10_isSheep, 839, 127, 838, 21), (m_X10_canCome, 944, 127, 943, 23), (m_X10_stormComes, 1165, 127, 1164, 26), (m_X10_draw, 1169, 127, 1168, 27), (m_X11_feed, 1578, 138, 1576, 1577), (m_X11_end, 1582, 138, 1580, 1581), (m_X11_fail, 1598, 138, 1597, 30), (m_X11_look, 1590, 138, 1589, 28), (m_X11_isHere, 1606, 138, 1605, 32), (m_X11_takes, 1602, 138, 1601, 31), (m_X11_asks, 1635, 138, 1634, 38), (m_X11_takesSign, 1711, 138, 1710, 55), (m_X11_asksSign, 1707, 138, 1706, 54), (m_X11_number, 1639, 138, 1638, 39), (m_X11_isOwnHere, 1629, 138, 1628, 37), (m_X11_name, 1625, 138, 1624, 36), (m_X11_isAllowed, 1701, 138, 1700, 53), (m_X11_isFull, 1617, 138, 1616, 34), (m_X11_newName, 1621, 138, 1620, 35), (m_X11_fieldNamed, 1653, 138, 1652, 41), (m_X11_fieldTold, 1613, 138, 1612, 33), (m_X11_gapTold, 1649, 138, 1648, 40), (m_X11_shutTold, 1657, 138, 1656, 42), (m_X11_sheepTold, 1661, 138, 1660, 43), (m_X11_codesTold, 1665, 138, 1664, 44), (m_X11_statementTold, 1594, 138, 1593, 29), (m_X11_upland, 1586, 138, 1584, 1585), (m_X11_stands, 1758, 138, 1757, 66), (m_X11_fault, 1762, 138, 1760, 1761)]
set_option maxRecDepth 1000000 in
theorem sw_mV3k : sw_mV3.all sw_ckV = true := by decide +kernel
set_option maxRecDepth 100000 in
theorem mk_X10_seed : sw_okV m_X10_seed := sw_ckV_in sw_mV3k 0 rfl (sw_T_of (sw_t5 (List.mem_of_getElem? (i := 98) rfl)) rfl)
set_option maxRecDepth 100000 in
theorem mk_X10_ask : sw_okV m_X10_ask := sw_ckV_in sw_mV3k 1 rfl (sw_T_of (sw_t5 (List.mem_of_getElem? (i := 102) rfl)) rfl)
set_option maxRecDepth 100000 in
theorem mk_X10_image : sw_okV m_X10_image := sw_ckV_in sw_mV3k 2 rfl (sw_T_of (sw_t5 (List.mem_of_getElem? (i := 129) rfl)) rfl)
set_option maxRecDepth 100000 in
theorem mk_X10_octet : sw_okV m_X10_octet := sw_ckV_in sw_mV3k 3 rfl (sw_T_of (sw_t5 (List.mem_of_getElem? (i := 144) rfl)) rfl)
set_option maxRecDepth 100000 in
theorem mk_X10_on : sw_okV m_X10_on := sw_ckV_in sw_mV3k 4 rfl (sw_T_of (sw_t5 (List.mem_of_getElem? (i := 148) rfl)) rfl)
set_option maxRecDepth 100000 in
theorem mk_X10_status : sw_okV m_X10_status := sw_ckV_in sw_mV3k 5 rfl (sw_T_of (sw_t5 (List.mem_of_getElem? (i := 162) rfl)) rfl)
set_option maxRecDepth 100000 in
theorem mk_X10_refuse : sw_okV m_X10_refuse := sw_ckV_in sw_mV3k 6 rfl (sw_T_of (sw_t2 (List.mem_of_getElem? (i := 238) rfl)) rfl)
set_option maxRecDepth 100000 in
theorem mk_X10_putBytes : sw_okV m_X10_putBytes := sw_ckV_in sw_mV3k 7 rfl (sw_T_of (sw_t3 (List.mem_of_getElem? (i := 2) rfl)) rfl)
set_option maxRecDepth 100000 in
theorem mk_X10_takeTape : sw_okV m_X10_takeTape := sw_ckV_in sw_mV3k 8 rfl (sw_T_of (sw_t3 (List.mem_of_getElem? (i := 14) rfl)) rfl)
set_option maxRecDepth 100000 in
theorem mk_X10_isField : sw_okV m_X10_isField := sw_ckV_in sw_mV3k 9 rfl (sw_T_of (sw_t3 (List.mem_of_getElem? (i := 229) rfl)) rfl)
set_option maxRecDepth 100000 in
theorem mk_X10_isGap : sw_okV m_X10_isGap := sw_ckV_in sw_mV3k 10 rfl (sw_T_of (sw_t4 (List.mem_of_getElem? (i := 5) rfl)) rfl)
set_option maxRecDepth 100000 in
theorem mk_X10_isSheep : sw_okV m_X10_isSheep := sw_ckV_in sw_mV3k 11 rfl (sw_T_of (sw_t3 (List.mem_of_getElem? (i := 233) rfl)) rfl)
set_option maxRecDepth 100000 in
theorem mk_X10_canCome : sw_okV m_X10_canCome := sw_ckV_in sw_mV3k 12 rfl (sw_T_of (sw_t4 (List.mem_of_getElem? (i := 98) rfl)) rfl)
set_option maxRecDepth 100000 in
theorem mk_X10_stormComes : sw_okV m_X10_stormComes := sw_ckV_in sw_mV3k 13 rfl (sw_T_of (sw_t5 (List.mem_of_getElem? (i := 79) rfl)) rfl)
set_option maxRecDepth 100000 in
theorem mk_X10_draw : sw_okV m_X10_draw := sw_ckV_in sw_mV3k 14 rfl (sw_T_of (sw_t5 (List.mem_of_getElem? (i := 83) rfl)) rfl)
set_option maxRecDepth 100000 in
theorem mk_X11_feed : sw_okV m_X11_feed := sw_ckV_in sw_mV3k 15 rfl (sw_T_of (sw_t7 (List.mem_of_getElem? (i := 12) rfl)) rfl)
set_option maxRecDepth 100000 in
theorem mk_X11_end : sw_okV m_X11_end := sw_ckV_in sw_mV3k 16 rfl (sw_T_of (sw_t7 (List.mem_of_getElem? (i := 16) rfl)) rfl)
set_option maxRecDepth 100000 in
theorem mk_X11_fail : sw_okV m_X11_fail := sw_ckV_in sw_mV3k 17 rfl (sw_T_of (sw_t7 (List.mem_of_getElem? (i := 32) rfl)) rfl)
set_option maxRecDepth 100000 in
theorem mk_X11_look : sw_okV m_X11_look := sw_ckV_in sw_mV3k 18 rfl (sw_T_of (sw_t7 (List.mem_of_getElem? (i := 24) rfl)) rfl)
set_option maxRecDepth 100000 in
theorem mk_X11_isHere : sw_okV m_X11_isHere := sw_ckV_in sw_mV3k 19 rfl (sw_T_of (sw_t7 (List.mem_of_getElem? (i := 40) rfl)) rfl)
set_option maxRecDepth 100000 in
theorem mk_X11_takes : sw_okV m_X11_takes := sw_ckV_in sw_mV3k 20 rfl (sw_T_of (sw_t7 (List.mem_of_getElem? (i := 36) rfl)) rfl)
set_option maxRecDepth 100000 in
theorem mk_X11_asks : sw_okV m_X11_asks := sw_ckV_in sw_mV3k 21 rfl (sw_T_of (sw_t7 (List.mem_of_getElem? (i := 69) rfl)) rfl)
set_option maxRecDepth 100000 in
theorem mk_X11_takesSign : sw_okV m_X11_takesSign := sw_ckV_in sw_mV3k 22 rfl (sw_T_of (sw_t7 (List.mem_of_getElem? (i := 145) rfl)) rfl)
set_option maxRecDepth 100000 in
theorem mk_X11_asksSign : sw_okV m_X11_asksSign := sw_ckV_in sw_mV3k 23 rfl (sw_T_of (sw_t7 (List.mem_of_getElem? (i := 141) rfl)) rfl)
set_option maxRecDepth 100000 in
theorem mk_X11_number : sw_okV m_X11_number := sw_ckV_in sw_mV3k 24 rfl (sw_T_of (sw_t7 (List.mem_of_getElem? (i := 73) rfl)) rfl)
set_option maxRecDepth 100000 in
theorem mk_X11_isOwnHere : sw_okV m_X11_isOwnHere := sw_ckV_in sw_mV3k 25 rfl (sw_T_of (sw_t7 (List.mem_of_getElem? (i := 63) rfl)) rfl)
set_option maxRecDepth 100000 in
theorem mk_X11_name : sw_okV m_X11_name := sw_ckV_in sw_mV3k 26 rfl (sw_T_of (sw_t7 (List.mem_of_getElem? (i := 59) rfl)) rfl)
set_option maxRecDepth 100000 in
theorem mk_X11_isAllowed : sw_okV m_X11_isAllowed := sw_ckV_in sw_mV3k 27 rfl (sw_T_of (sw_t7 (List.mem_of_getElem? (i := 135) rfl)) rfl)
set_option maxRecDepth 100000 in
theorem mk_X11_isFull : sw_okV m_X11_isFull := sw_ckV_in sw_mV3k 28 rfl (sw_T_of (sw_t7 (List.mem_of_getElem? (i := 51) rfl)) rfl)
set_option maxRecDepth 100000 in
theorem mk_X11_newName : sw_okV m_X11_newName := sw_ckV_in sw_mV3k 29 rfl (sw_T_of (sw_t7 (List.mem_of_getElem? (i := 55) rfl)) rfl)
set_option maxRecDepth 100000 in
theorem mk_X11_fieldNamed : sw_okV m_X11_fieldNamed := sw_ckV_in sw_mV3k 30 rfl (sw_T_of (sw_t7 (List.mem_of_getElem? (i := 87) rfl)) rfl)
set_option maxRecDepth 100000 in
theorem mk_X11_fieldTold : sw_okV m_X11_fieldTold := sw_ckV_in sw_mV3k 31 rfl (sw_T_of (sw_t7 (List.mem_of_getElem? (i := 47) rfl)) rfl)
set_option maxRecDepth 100000 in
theorem mk_X11_gapTold : sw_okV m_X11_gapTold := sw_ckV_in sw_mV3k 32 rfl (sw_T_of (sw_t7 (List.mem_of_getElem? (i := 83) rfl)) rfl)
set_option maxRecDepth 100000 in
theorem mk_X11_shutTold : sw_okV m_X11_shutTold := sw_ckV_in sw_mV3k 33 rfl (sw_T_of (sw_t7 (List.mem_of_getElem? (i := 91) rfl)) rfl)
set_option maxRecDepth 100000 in
theorem mk_X11_sheepTold : sw_okV m_X11_sheepTold := sw_ckV_in sw_mV3k 34 rfl (sw_T_of (sw_t7 (List.mem_of_getElem? (i := 95) rfl)) rfl)
set_option maxRecDepth 100000 in
theorem mk_X11_codesTold : sw_okV m_X11_codesTold := sw_ckV_in sw_mV3k 35 rfl (sw_T_of (sw_t7 (List.mem_of_getElem? (i := 99) rfl)) rfl)
set_option maxRecDepth 100000 in
theorem mk_X11_statementTold : sw_okV m_X11_statementTold := sw_ckV_in sw_mV3k 36 rfl (sw_T_of (sw_t7 (List.mem_of_getElem? (i := 28) rfl)) rfl)
set_option maxRecDepth 100000 in
theorem mk_X11_upland : sw_okV m_X11_upland := sw_ckV_in sw_mV3k 37 rfl (sw_T_of (sw_t7 (List.mem_of_getElem? (i := 20) rfl)) rfl)
set_option maxRecDepth 100000 in
theorem mk_X11_stands : sw_okV m_X11_stands := sw_ckV_in sw_mV3k 38 rfl (sw_T_of (sw_t7 (List.mem_of_getElem? (i := 192) rfl)) rfl)
set_option maxRecDepth 100000 in
theorem mk_X11_fault : sw_okV m_X11_fault := sw_ckV_in sw_mV3k 39 rfl (sw_T_of (sw_t7 (List.mem_of_getElem? (i := 196) rfl)) rfl)
def sw_mV4 : List (sw_M × Nat × Nat × Nat × Nat) := [(m_X11_fieldMany, 1770, 138, 1769, 67), (m_X11_sheepMany, 1778, 138, 1777, 69), (m_X11_gapMany, 1774, 138, 1773, 68), (m_X11_isField, 1807, 138, 1806, 74), (m_X11_isSheep, 1824, 138, 1823, 76), (m_X11_isGap, 1815, 138, 1814, 75), (m_X11_isOpen, 1786, 138, 1785, 71), (m_X11_milesOf, 1908, 138, 1907, 93), (m_X11_fieldOf, 1828, 138, 1827, 77), (m_X11_woolOf, 1794, 138, 1793, 73), (m_X11_crimpOf, 1836, 138, 1835, 79), (m_X11_ledOf, 1840, 138, 1839, 80), (m_X11_seenOf, 1852, 138, 1851, 82), (m_X11_homeOf, 1844, 138, 1843, 81), (m_X11_curiousOf, 1832, 138, 1831, 78), (m_X11_acrossFrom, 1900, 138, 1899, 91), (m_X11_beyond, 1896, 138, 1895, 90), (m_X11_isTold, 1868, 138, 1867, 85), (m_X11_codesTell, 1872, 138, 1871, 86), (m_X11_luresOf, 1904, 138, 1903, 92), (m_X11_doesStay, 1864, 138, 1863, 84), (m_X11_worthOf, 1916, 138, 1915, 94), (m_X11_gapFor, 1860, 138, 1859, 83), (m_X11_goesThrough, 1946, 138, 1945, 99), (m_X11_isKept, 1953, 138, 1952, 100), (m_X11_sheepGoes, 1942, 138, 1941, 98), (m_X11_dayGoes, 1988, 138, 1987, 105), (m_X11_daysGo, 1984, 138, 1983, 104), (m_X11_oneGoes, 1938, 138, 1937, 97), (m_X11_putsAside, 1934, 138, 1933, 96), (m_X11_triesAnew, 1961, 138, 1960, 102), (m_X11_takesBack, 1957, 138, 1956, 101), (m_X11_isAhead, 1929, 138, 1928, 95), (m_X11_openMany, 1782, 138, 1781, 70), (m_X11_woolAll, 1790, 138, 1789, 72), (m_X11_has, 1766, 138, 1764, 1765), (m_X11_letter, 1798, 138, 1796, 1797), (m_X11_lure, 1803, 138, 1801, 1802), (m_X11_gap, 1811, 138, 1809, 1810), (m_X11_sheep, 1820, 138, 1818, 1819)]
set_option maxRecDepth 1000000 in
theorem sw_mV4k : sw_mV4.all sw_ckV = true := by decide +kernel
set_option maxRecDepth 100000 in
theorem mk_X11_fieldMany : sw_okV m_X11_fieldMany := sw_ckV_in sw_mV4k 0 rfl (sw_T_of (sw_t7 (List.mem_of_getElem? (i := 204) rfl)) rfl)
set_option maxRecDepth 100000 in
theorem mk_X11_sheepMany : sw_okV m_X11_sheepMany := sw_ckV_in sw_mV4k 1 rfl (sw_T_of (sw_t7 (List.mem_of_getElem? (i := 212) rfl)) rfl)
set_option maxRecDepth 100000 in
theorem mk_X11_gapMany : sw_okV m_X11_gapMany := sw_ckV_in sw_mV4k 2 rfl (sw_T_of (sw_t7 (List.mem_of_getElem? (i := 208) rfl)) rfl)
set_option maxRecDepth 100000 in
theorem mk_X11_isField : sw_okV m_X11_isField := sw_ckV_in sw_mV4k 3 rfl (sw_T_of (sw_t8 (List.mem_of_getElem? (i := 1) rfl)) rfl)
set_option maxRecDepth 100000 in
theorem mk_X11_isSheep : sw_okV m_X11_isSheep := sw_ckV_in sw_mV4k 4 rfl (sw_T_of (sw_t8 (List.mem_of_getElem? (i := 18) rfl)) rfl)
set_option maxRecDepth 100000 in
theorem mk_X11_isGap : sw_okV m_X11_isGap := sw_ckV_in sw_mV4k 5 rfl (sw_T_of (sw_t8 (List.mem_of_getElem? (i := 9) rfl)) rfl)
set_option maxRecDepth 100000 in
theorem mk_X11_isOpen : sw_okV m_X11_isOpen := sw_ckV_in sw_mV4k 6 rfl (sw_T_of (sw_t7 (List.mem_of_getElem? (i := 220) rfl)) rfl)
set_option maxRecDepth 100000 in
theorem mk_X11_milesOf : sw_okV m_X11_milesOf := sw_ckV_in sw_mV4k 7 rfl (sw_T_of (sw_t8 (List.mem_of_getElem? (i := 102) rfl)) rfl)
set_option maxRecDepth 100000 in
theorem mk_X11_fieldOf : sw_okV m_X11_fieldOf := sw_ckV_in sw_mV4k 8 rfl (sw_T_of (sw_t8 (List.mem_of_getElem? (i := 22) rfl)) rfl)
set_option maxRecDepth 100000 in
theorem mk_X11_woolOf : sw_okV m_X11_woolOf := sw_ckV_in sw_mV4k 9 rfl (sw_T_of (sw_t7 (List.mem_of_getElem? (i := 228) rfl)) rfl)
set_option maxRecDepth 100000 in
theorem mk_X11_crimpOf : sw_okV m_X11_crimpOf := sw_ckV_in sw_mV4k 10 rfl (sw_T_of (sw_t8 (List.mem_of_getElem? (i := 30) rfl)) rfl)
set_option maxRecDepth 100000 in
theorem mk_X11_ledOf : sw_okV m_X11_ledOf := sw_ckV_in sw_mV4k 11 rfl (sw_T_of (sw_t8 (List.mem_of_getElem? (i := 34) rfl)) rfl)
set_option maxRecDepth 100000 in
theorem mk_X11_seenOf : sw_okV m_X11_seenOf := sw_ckV_in sw_mV4k 12 rfl (sw_T_of (sw_t8 (List.mem_of_getElem? (i := 46) rfl)) rfl)
set_option maxRecDepth 100000 in
theorem mk_X11_homeOf : sw_okV m_X11_homeOf := sw_ckV_in sw_mV4k 13 rfl (sw_T_of (sw_t8 (List.mem_of_getElem? (i := 38) rfl)) rfl)
set_option maxRecDepth 100000 in
theorem mk_X11_curiousOf : sw_okV m_X11_curiousOf := sw_ckV_in sw_mV4k 14 rfl (sw_T_of (sw_t8 (List.mem_of_getElem? (i := 26) rfl)) rfl)
set_option maxRecDepth 100000 in
theorem mk_X11_acrossFrom : sw_okV m_X11_acrossFrom := sw_ckV_in sw_mV4k 15 rfl (sw_T_of (sw_t8 (List.mem_of_getElem? (i := 94) rfl)) rfl)
set_option maxRecDepth 100000 in
theorem mk_X11_beyond : sw_okV m_X11_beyond := sw_ckV_in sw_mV4k 16 rfl (sw_T_of (sw_t8 (List.mem_of_getElem? (i := 90) rfl)) rfl)
set_option maxRecDepth 100000 in
theorem mk_X11_isTold : sw_okV m_X11_isTold := sw_ckV_in sw_mV4k 17 rfl (sw_T_of (sw_t8 (List.mem_of_getElem? (i := 62) rfl)) rfl)
set_option maxRecDepth 100000 in
theorem mk_X11_codesTell : sw_okV m_X11_codesTell := sw_ckV_in sw_mV4k 18 rfl (sw_T_of (sw_t8 (List.mem_of_getElem? (i := 66) rfl)) rfl)
set_option maxRecDepth 100000 in
theorem mk_X11_luresOf : sw_okV m_X11_luresOf := sw_ckV_in sw_mV4k 19 rfl (sw_T_of (sw_t8 (List.mem_of_getElem? (i := 98) rfl)) rfl)
set_option maxRecDepth 100000 in
theorem mk_X11_doesStay : sw_okV m_X11_doesStay := sw_ckV_in sw_mV4k 20 rfl (sw_T_of (sw_t8 (List.mem_of_getElem? (i := 58) rfl)) rfl)
set_option maxRecDepth 100000 in
theorem mk_X11_worthOf : sw_okV m_X11_worthOf := sw_ckV_in sw_mV4k 21 rfl (sw_T_of (sw_t8 (List.mem_of_getElem? (i := 110) rfl)) rfl)
set_option maxRecDepth 100000 in
theorem mk_X11_gapFor : sw_okV m_X11_gapFor := sw_ckV_in sw_mV4k 22 rfl (sw_T_of (sw_t8 (List.mem_of_getElem? (i := 54) rfl)) rfl)
set_option maxRecDepth 100000 in
theorem mk_X11_goesThrough : sw_okV m_X11_goesThrough := sw_ckV_in sw_mV4k 23 rfl (sw_T_of (sw_t8 (List.mem_of_getElem? (i := 140) rfl)) rfl)
set_option maxRecDepth 100000 in
theorem mk_X11_isKept : sw_okV m_X11_isKept := sw_ckV_in sw_mV4k 24 rfl (sw_T_of (sw_t8 (List.mem_of_getElem? (i := 147) rfl)) rfl)
set_option maxRecDepth 100000 in
theorem mk_X11_sheepGoes : sw_okV m_X11_sheepGoes := sw_ckV_in sw_mV4k 25 rfl (sw_T_of (sw_t8 (List.mem_of_getElem? (i := 136) rfl)) rfl)
set_option maxRecDepth 100000 in
theorem mk_X11_dayGoes : sw_okV m_X11_dayGoes := sw_ckV_in sw_mV4k 26 rfl (sw_T_of (sw_t8 (List.mem_of_getElem? (i := 182) rfl)) rfl)
set_option maxRecDepth 100000 in
theorem mk_X11_daysGo : sw_okV m_X11_daysGo := sw_ckV_in sw_mV4k 27 rfl (sw_T_of (sw_t8 (List.mem_of_getElem? (i := 178) rfl)) rfl)
set_option maxRecDepth 100000 in
theorem mk_X11_oneGoes : sw_okV m_X11_oneGoes := sw_ckV_in sw_mV4k 28 rfl (sw_T_of (sw_t8 (List.mem_of_getElem? (i := 132) rfl)) rfl)
set_option maxRecDepth 100000 in
theorem mk_X11_putsAside : sw_okV m_X11_putsAside := sw_ckV_in sw_mV4k 29 rfl (sw_T_of (sw_t8 (List.mem_of_getElem? (i := 128) rfl)) rfl)
set_option maxRecDepth 100000 in
theorem mk_X11_triesAnew : sw_okV m_X11_triesAnew := sw_ckV_in sw_mV4k 30 rfl (sw_T_of (sw_t8 (List.mem_of_getElem? (i := 155) rfl)) rfl)
set_option maxRecDepth 100000 in
theorem mk_X11_takesBack : sw_okV m_X11_takesBack := sw_ckV_in sw_mV4k 31 rfl (sw_T_of (sw_t8 (List.mem_of_getElem? (i := 151) rfl)) rfl)
set_option maxRecDepth 100000 in
theorem mk_X11_isAhead : sw_okV m_X11_isAhead := sw_ckV_in sw_mV4k 32 rfl (sw_T_of (sw_t8 (List.mem_of_getElem? (i := 123) rfl)) rfl)
set_option maxRecDepth 100000 in
theorem mk_X11_openMany : sw_okV m_X11_openMany := sw_ckV_in sw_mV4k 33 rfl (sw_T_of (sw_t7 (List.mem_of_getElem? (i := 216) rfl)) rfl)
set_option maxRecDepth 100000 in
theorem mk_X11_woolAll : sw_okV m_X11_woolAll := sw_ckV_in sw_mV4k 34 rfl (sw_T_of (sw_t7 (List.mem_of_getElem? (i := 224) rfl)) rfl)
set_option maxRecDepth 100000 in
theorem mk_X11_has : sw_okV m_X11_has := sw_ckV_in sw_mV4k 35 rfl (sw_T_of (sw_t7 (List.mem_of_getElem? (i := 200) rfl)) rfl)
set_option maxRecDepth 100000 in
theorem mk_X11_letter : sw_okV m_X11_letter := sw_ckV_in sw_mV4k 36 rfl (sw_T_of (sw_t7 (List.mem_of_getElem? (i := 232) rfl)) rfl)
set_option maxRecDepth 100000 in
theorem mk_X11_lure : sw_okV m_X11_lure := sw_ckV_in sw_mV4k 37 rfl (sw_T_of (sw_t7 (List.mem_of_getElem? (i := 237) rfl)) rfl)
set_option maxRecDepth 100000 in
theorem mk_X11_gap : sw_okV m_X11_gap := sw_ckV_in sw_mV4k 38 rfl (sw_T_of (sw_t8 (List.mem_of_getElem? (i := 5) rfl)) rfl)
set_option maxRecDepth 100000 in
theorem mk_X11_sheep : sw_okV m_X11_sheep := sw_ckV_in sw_mV4k 39 rfl (sw_T_of (sw_t8 (List.mem_of_getElem? (i := 14) rfl)) rfl)
def sw_mV5 : List (sw_M × Nat × Nat × Nat × Nat) := [(m_X11_seen, 1848, 138, 1846, 1847), (m_X11_strays, 1856, 138, 1854, 1855), (m_X11_brings, 1912, 138, 1910, 1911), (m_X11_kept, 1921, 138, 1919, 1920), (m_X11_later, 1925, 138, 1923, 1924), (m_X11_home, 1965, 138, 1963, 1964), (m_X11_changes, 1976, 138, 1975, 103), (m_X11_gaps, 1969, 138, 1967, 1968), (m_X11_rumour, 1980, 138, 1978, 1979), (m_X11_isCheaper, 1996, 138, 1995, 106), (m_X11_way, 1992, 138, 1990, 1991), (m_X11_waits, 2000, 138, 1998, 1999), (m_X11_milesBy, 2008, 138, 2007, 107), (m_X11_coat, 2004, 138, 2002, 2003), (m_X11_watchers, 2016, 138, 2015, 108), (m_X11_watch, 2012, 138, 2010, 2011), (m_X11_waysGo, 2027, 138, 2026, 109), (m_X11_ways, 2020, 138, 2018, 2019), (m_X11_refuses, 2035, 138, 2034, 110), (m_X11_feel, 2031, 138, 2029, 2030), (m_X11_isAsFelt, 2047, 138, 2046, 112), (m_X11_curiousSet, 2043, 138, 2042, 111), (m_X11_curious, 2039, 138, 2037, 2038), (m_X11_mostAlike, 2055, 138, 2054, 113), (m_X11_tells, 2051, 138, 2049, 2050), (m_X11_keeps, 2067, 138, 2066, 114), (m_X11_undo, 2059, 138, 2057, 2058), (m_X11_shear, 2063, 138, 2061, 2062), (m_X11_isRefused, 2076, 138, 2075, 115), (m_X11_lead, 2072, 138, 2070, 2071), (m_X11_swing, 2080, 138, 2078, 2079), (m_X11_tell, 2084, 138, 2082, 2083), (m_X11_days, 2089, 138, 2087, 2088), (m_X11_seed, 2093, 138, 2091, 2092), (m_X11_drawOf, 2101, 138, 2100, 116), (m_X11_chance, 2097, 138, 2095, 2096), (m_X11_qCode, 1681, 138, 1680, 48), (m_X11_qOpens, 1673, 138, 1672, 46), (m_X11_qIsOn, 1742, 138, 1741, 62), (m_X11_qDrops, 1723, 138, 1722, 58)]
set_option maxRecDepth 1000000 in
theorem sw_mV5k : sw_mV5.all sw_ckV = true := by decide +kernel
set_option maxRecDepth 100000 in
theorem mk_X11_seen : sw_okV m_X11_seen := sw_ckV_in sw_mV5k 0 rfl (sw_T_of (sw_t8 (List.mem_of_getElem? (i := 42) rfl)) rfl)
set_option maxRecDepth 100000 in
theorem mk_X11_strays : sw_okV m_X11_strays := sw_ckV_in sw_mV5k 1 rfl (sw_T_of (sw_t8 (List.mem_of_getElem? (i := 50) rfl)) rfl)
set_option maxRecDepth 100000 in
theorem mk_X11_brings : sw_okV m_X11_brings := sw_ckV_in sw_mV5k 2 rfl (sw_T_of (sw_t8 (List.mem_of_getElem? (i := 106) rfl)) rfl)
set_option maxRecDepth 100000 in
theorem mk_X11_kept : sw_okV m_X11_kept := sw_ckV_in sw_mV5k 3 rfl (sw_T_of (sw_t8 (List.mem_of_getElem? (i := 115) rfl)) rfl)
set_option maxRecDepth 100000 in
theorem mk_X11_later : sw_okV m_X11_later := sw_ckV_in sw_mV5k 4 rfl (sw_T_of (sw_t8 (List.mem_of_getElem? (i := 119) rfl)) rfl)
set_option maxRecDepth 100000 in
theorem mk_X11_home : sw_okV m_X11_home := sw_ckV_in sw_mV5k 5 rfl (sw_T_of (sw_t8 (List.mem_of_getElem? (i := 159) rfl)) rfl)
set_option maxRecDepth 100000 in
theorem mk_X11_changes : sw_okV m_X11_changes := sw_ckV_in sw_mV5k 6 rfl (sw_T_of (sw_t8 (List.mem_of_getElem? (i := 170) rfl)) rfl)
set_option maxRecDepth 100000 in
theorem mk_X11_gaps : sw_okV m_X11_gaps := sw_ckV_in sw_mV5k 7 rfl (sw_T_of (sw_t8 (List.mem_of_getElem? (i := 163) rfl)) rfl)
set_option maxRecDepth 100000 in
theorem mk_X11_rumour : sw_okV m_X11_rumour := sw_ckV_in sw_mV5k 8 rfl (sw_T_of (sw_t8 (List.mem_of_getElem? (i := 174) rfl)) rfl)
set_option maxRecDepth 100000 in
theorem mk_X11_isCheaper : sw_okV m_X11_isCheaper := sw_ckV_in sw_mV5k 9 rfl (sw_T_of (sw_t8 (List.mem_of_getElem? (i := 190) rfl)) rfl)
set_option maxRecDepth 100000 in
theorem mk_X11_way : sw_okV m_X11_way := sw_ckV_in sw_mV5k 10 rfl (sw_T_of (sw_t8 (List.mem_of_getElem? (i := 186) rfl)) rfl)
set_option maxRecDepth 100000 in
theorem mk_X11_waits : sw_okV m_X11_waits := sw_ckV_in sw_mV5k 11 rfl (sw_T_of (sw_t8 (List.mem_of_getElem? (i := 194) rfl)) rfl)
set_option maxRecDepth 100000 in
theorem mk_X11_milesBy : sw_okV m_X11_milesBy := sw_ckV_in sw_mV5k 12 rfl (sw_T_of (sw_t8 (List.mem_of_getElem? (i := 202) rfl)) rfl)
set_option maxRecDepth 100000 in
theorem mk_X11_coat : sw_okV m_X11_coat := sw_ckV_in sw_mV5k 13 rfl (sw_T_of (sw_t8 (List.mem_of_getElem? (i := 198) rfl)) rfl)
set_option maxRecDepth 100000 in
theorem mk_X11_watchers : sw_okV m_X11_watchers := sw_ckV_in sw_mV5k 14 rfl (sw_T_of (sw_t8 (List.mem_of_getElem? (i := 210) rfl)) rfl)
set_option maxRecDepth 100000 in
theorem mk_X11_watch : sw_okV m_X11_watch := sw_ckV_in sw_mV5k 15 rfl (sw_T_of (sw_t8 (List.mem_of_getElem? (i := 206) rfl)) rfl)
set_option maxRecDepth 100000 in
theorem mk_X11_waysGo : sw_okV m_X11_waysGo := sw_ckV_in sw_mV5k 16 rfl (sw_T_of (sw_t8 (List.mem_of_getElem? (i := 221) rfl)) rfl)
set_option maxRecDepth 100000 in
theorem mk_X11_ways : sw_okV m_X11_ways := sw_ckV_in sw_mV5k 17 rfl (sw_T_of (sw_t8 (List.mem_of_getElem? (i := 214) rfl)) rfl)
set_option maxRecDepth 100000 in
theorem mk_X11_refuses : sw_okV m_X11_refuses := sw_ckV_in sw_mV5k 18 rfl (sw_T_of (sw_t8 (List.mem_of_getElem? (i := 229) rfl)) rfl)
set_option maxRecDepth 100000 in
theorem mk_X11_feel : sw_okV m_X11_feel := sw_ckV_in sw_mV5k 19 rfl (sw_T_of (sw_t8 (List.mem_of_getElem? (i := 225) rfl)) rfl)
set_option maxRecDepth 100000 in
theorem mk_X11_isAsFelt : sw_okV m_X11_isAsFelt := sw_ckV_in sw_mV5k 20 rfl (sw_T_of (sw_t9 (List.mem_of_getElem? (i := 1) rfl)) rfl)
set_option maxRecDepth 100000 in
theorem mk_X11_curiousSet : sw_okV m_X11_curiousSet := sw_ckV_in sw_mV5k 21 rfl (sw_T_of (sw_t8 (List.mem_of_getElem? (i := 237) rfl)) rfl)
set_option maxRecDepth 100000 in
theorem mk_X11_curious : sw_okV m_X11_curious := sw_ckV_in sw_mV5k 22 rfl (sw_T_of (sw_t8 (List.mem_of_getElem? (i := 233) rfl)) rfl)
set_option maxRecDepth 100000 in
theorem mk_X11_mostAlike : sw_okV m_X11_mostAlike := sw_ckV_in sw_mV5k 23 rfl (sw_T_of (sw_t9 (List.mem_of_getElem? (i := 9) rfl)) rfl)
set_option maxRecDepth 100000 in
theorem mk_X11_tells : sw_okV m_X11_tells := sw_ckV_in sw_mV5k 24 rfl (sw_T_of (sw_t9 (List.mem_of_getElem? (i := 5) rfl)) rfl)
set_option maxRecDepth 100000 in
theorem mk_X11_keeps : sw_okV m_X11_keeps := sw_ckV_in sw_mV5k 25 rfl (sw_T_of (sw_t9 (List.mem_of_getElem? (i := 21) rfl)) rfl)
set_option maxRecDepth 100000 in
theorem mk_X11_undo : sw_okV m_X11_undo := sw_ckV_in sw_mV5k 26 rfl (sw_T_of (sw_t9 (List.mem_of_getElem? (i := 13) rfl)) rfl)
set_option maxRecDepth 100000 in
theorem mk_X11_shear : sw_okV m_X11_shear := sw_ckV_in sw_mV5k 27 rfl (sw_T_of (sw_t9 (List.mem_of_getElem? (i := 17) rfl)) rfl)
set_option maxRecDepth 100000 in
theorem mk_X11_isRefused : sw_okV m_X11_isRefused := sw_ckV_in sw_mV5k 28 rfl (sw_T_of (sw_t9 (List.mem_of_getElem? (i := 30) rfl)) rfl)
set_option maxRecDepth 100000 in
theorem mk_X11_lead : sw_okV m_X11_lead := sw_ckV_in sw_mV5k 29 rfl (sw_T_of (sw_t9 (List.mem_of_getElem? (i := 26) rfl)) rfl)
set_option maxRecDepth 100000 in
theorem mk_X11_swing : sw_okV m_X11_swing := sw_ckV_in sw_mV5k 30 rfl (sw_T_of (sw_t9 (List.mem_of_getElem? (i := 34) rfl)) rfl)
set_option maxRecDepth 100000 in
theorem mk_X11_tell : sw_okV m_X11_tell := sw_ckV_in sw_mV5k 31 rfl (sw_T_of (sw_t9 (List.mem_of_getElem? (i := 38) rfl)) rfl)
set_option maxRecDepth 100000 in
theorem mk_X11_days : sw_okV m_X11_days := sw_ckV_in sw_mV5k 32 rfl (sw_T_of (sw_t9 (List.mem_of_getElem? (i := 43) rfl)) rfl)
set_option maxRecDepth 100000 in
theorem mk_X11_seed : sw_okV m_X11_seed := sw_ckV_in sw_mV5k 33 rfl (sw_T_of (sw_t9 (List.mem_of_getElem? (i := 47) rfl)) rfl)
set_option maxRecDepth 100000 in
theorem mk_X11_drawOf : sw_okV m_X11_drawOf := sw_ckV_in sw_mV5k 34 rfl (sw_T_of (sw_t9 (List.mem_of_getElem? (i := 55) rfl)) rfl)
set_option maxRecDepth 100000 in
theorem mk_X11_chance : sw_okV m_X11_chance := sw_ckV_in sw_mV5k 35 rfl (sw_T_of (sw_t9 (List.mem_of_getElem? (i := 51) rfl)) rfl)
set_option maxRecDepth 100000 in
theorem mk_X11_qCode : sw_okV m_X11_qCode := sw_ckV_in sw_mV5k 36 rfl (sw_T_of (sw_t7 (List.mem_of_getElem? (i := 115) rfl)) rfl)
set_option maxRecDepth 100000 in
theorem mk_X11_qOpens : sw_okV m_X11_qOpens := sw_ckV_in sw_mV5k 37 rfl (sw_T_of (sw_t7 (List.mem_of_getElem? (i := 107) rfl)) rfl)
set_option maxRecDepth 100000 in
theorem mk_X11_qIsOn : sw_okV m_X11_qIsOn := sw_ckV_in sw_mV5k 38 rfl (sw_T_of (sw_t7 (List.mem_of_getElem? (i := 176) rfl)) rfl)
set_option maxRecDepth 100000 in
theorem mk_X11_qDrops : sw_okV m_X11_qDrops := sw_ckV_in sw_mV5k 39 rfl (sw_T_of (sw_t7 (List.mem_of_getElem? (i := 157) rfl)) rfl)
def sw_mV6 : List (sw_M × Nat × Nat × Nat × Nat) := [(m_X11_qBracket, 1731, 138, 1730, 60), (m_X11_qDropsToBracket, 1738, 138, 1737, 61), (m_X11_qWordHere, 1697, 138, 1696, 52), (m_X11_qWordOf, 1693, 138, 1692, 51), (m_X11_qAsksWord, 1715, 138, 1714, 56), (m_X11_qEndsPart, 1719, 138, 1718, 57), (m_X11_qPartTold, 1689, 138, 1688, 50), (m_X11_qGoesOn, 1727, 138, 1726, 59), (m_X11_qSums, 1685, 138, 1684, 49), (m_X11_qFact, 1677, 138, 1676, 47), (m_X11_qHasSquare, 1754, 138, 1753, 65), (m_X11_qDropsNots, 1746, 138, 1745, 63), (m_X11_qTest, 1669, 138, 1668, 45), (m_X11_qGoesOnTest, 1750, 138, 1749, 64), (m_X11_qPuts, 1876, 138, 1875, 87), (m_X11_qJoins, 1884, 138, 1883, 89), (m_X11_qPartOf, 1880, 138, 1879, 88), (m_X11_qOf, 2122, 138, 2121, 119), (m_X11_qTold, 2118, 138, 2117, 118), (m_X11_qKind, 2113, 138, 2112, 117), (m_X11_qTakes, 2126, 138, 2125, 120), (m_X11_ask, 2109, 138, 2107, 2108), (m_X11_writes, 2138, 138, 2137, 122), (m_X11_writesTwo, 2134, 138, 2133, 121), (m_X11_image, 2130, 138, 2128, 2129), (m_X11_octet, 2146, 138, 2144, 2145), (m_X11_twoAt, 2158, 138, 2157, 124), (m_X11_isSheepTold, 2162, 138, 2161, 125), (m_X11_isImage, 2154, 138, 2153, 123), (m_X11_on, 2150, 138, 2148, 2149), (m_X11_status, 2166, 138, 2164, 2165)]
set_option maxRecDepth 1000000 in
theorem sw_mV6k : sw_mV6.all sw_ckV = true := by decide +kernel
set_option maxRecDepth 100000 in
theorem mk_X11_qBracket : sw_okV m_X11_qBracket := sw_ckV_in sw_mV6k 0 rfl (sw_T_of (sw_t7 (List.mem_of_getElem? (i := 165) rfl)) rfl)
set_option maxRecDepth 100000 in
theorem mk_X11_qDropsToBracket : sw_okV m_X11_qDropsToBracket := sw_ckV_in sw_mV6k 1 rfl (sw_T_of (sw_t7 (List.mem_of_getElem? (i := 172) rfl)) rfl)
set_option maxRecDepth 100000 in
theorem mk_X11_qWordHere : sw_okV m_X11_qWordHere := sw_ckV_in sw_mV6k 2 rfl (sw_T_of (sw_t7 (List.mem_of_getElem? (i := 131) rfl)) rfl)
set_option maxRecDepth 100000 in
theorem mk_X11_qWordOf : sw_okV m_X11_qWordOf := sw_ckV_in sw_mV6k 3 rfl (sw_T_of (sw_t7 (List.mem_of_getElem? (i := 127) rfl)) rfl)
set_option maxRecDepth 100000 in
theorem mk_X11_qAsksWord : sw_okV m_X11_qAsksWord := sw_ckV_in sw_mV6k 4 rfl (sw_T_of (sw_t7 (List.mem_of_getElem? (i := 149) rfl)) rfl)
set_option maxRecDepth 100000 in
theorem mk_X11_qEndsPart : sw_okV m_X11_qEndsPart := sw_ckV_in sw_mV6k 5 rfl (sw_T_of (sw_t7 (List.mem_of_getElem? (i := 153) rfl)) rfl)
set_option maxRecDepth 100000 in
theorem mk_X11_qPartTold : sw_okV m_X11_qPartTold := sw_ckV_in sw_mV6k 6 rfl (sw_T_of (sw_t7 (List.mem_of_getElem? (i := 123) rfl)) rfl)
set_option maxRecDepth 100000 in
theorem mk_X11_qGoesOn : sw_okV m_X11_qGoesOn := sw_ckV_in sw_mV6k 7 rfl (sw_T_of (sw_t7 (List.mem_of_getElem? (i := 161) rfl)) rfl)
set_option maxRecDepth 100000 in
theorem mk_X11_qSums : sw_okV m_X11_qSums := sw_ckV_in sw_mV6k 8 rfl (sw_T_of (sw_t7 (List.mem_of_getElem? (i := 119) rfl)) rfl)
set_option maxRecDepth 100000 in
theorem mk_X11_qFact : sw_okV m_X11_qFact := sw_ckV_in sw_mV6k 9 rfl (sw_T_of (sw_t7 (List.mem_of_getElem? (i := 111) rfl)) rfl)
set_option maxRecDepth 100000 in
theorem mk_X11_qHasSquare : sw_okV m_X11_qHasSquare := sw_ckV_in sw_mV6k 10 rfl (sw_T_of (sw_t7 (List.mem_of_getElem? (i := 188) rfl)) rfl)
set_option maxRecDepth 100000 in
theorem mk_X11_qDropsNots : sw_okV m_X11_qDropsNots := sw_ckV_in sw_mV6k 11 rfl (sw_T_of (sw_t7 (List.mem_of_getElem? (i := 180) rfl)) rfl)
set_option maxRecDepth 100000 in
theorem mk_X11_qTest : sw_okV m_X11_qTest := sw_ckV_in sw_mV6k 12 rfl (sw_T_of (sw_t7 (List.mem_of_getElem? (i := 103) rfl)) rfl)
set_option maxRecDepth 100000 in
theorem mk_X11_qGoesOnTest : sw_okV m_X11_qGoesOnTest := sw_ckV_in sw_mV6k 13 rfl (sw_T_of (sw_t7 (List.mem_of_getElem? (i := 184) rfl)) rfl)
set_option maxRecDepth 100000 in
theorem mk_X11_qPuts : sw_okV m_X11_qPuts := sw_ckV_in sw_mV6k 14 rfl (sw_T_of (sw_t8 (List.mem_of_getElem? (i := 70) rfl)) rfl)
set_option maxRecDepth 100000 in
theorem mk_X11_qJoins : sw_okV m_X11_qJoins := sw_ckV_in sw_mV6k 15 rfl (sw_T_of (sw_t8 (List.mem_of_getElem? (i := 78) rfl)) rfl)
set_option maxRecDepth 100000 in
theorem mk_X11_qPartOf : sw_okV m_X11_qPartOf := sw_ckV_in sw_mV6k 16 rfl (sw_T_of (sw_t8 (List.mem_of_getElem? (i := 74) rfl)) rfl)
set_option maxRecDepth 100000 in
theorem mk_X11_qOf : sw_okV m_X11_qOf := sw_ckV_in sw_mV6k 17 rfl (sw_T_of (sw_t9 (List.mem_of_getElem? (i := 76) rfl)) rfl)
set_option maxRecDepth 100000 in
theorem mk_X11_qTold : sw_okV m_X11_qTold := sw_ckV_in sw_mV6k 18 rfl (sw_T_of (sw_t9 (List.mem_of_getElem? (i := 72) rfl)) rfl)
set_option maxRecDepth 100000 in
theorem mk_X11_qKind : sw_okV m_X11_qKind := sw_ckV_in sw_mV6k 19 rfl (sw_T_of (sw_t9 (List.mem_of_getElem? (i := 67) rfl)) rfl)
set_option maxRecDepth 100000 in
theorem mk_X11_qTakes : sw_okV m_X11_qTakes := sw_ckV_in sw_mV6k 20 rfl (sw_T_of (sw_t9 (List.mem_of_getElem? (i := 80) rfl)) rfl)
set_option maxRecDepth 100000 in
theorem mk_X11_ask : sw_okV m_X11_ask := sw_ckV_in sw_mV6k 21 rfl (sw_T_of (sw_t9 (List.mem_of_getElem? (i := 63) rfl)) rfl)
set_option maxRecDepth 100000 in
theorem mk_X11_writes : sw_okV m_X11_writes := sw_ckV_in sw_mV6k 22 rfl (sw_T_of (sw_t9 (List.mem_of_getElem? (i := 92) rfl)) rfl)
set_option maxRecDepth 100000 in
theorem mk_X11_writesTwo : sw_okV m_X11_writesTwo := sw_ckV_in sw_mV6k 23 rfl (sw_T_of (sw_t9 (List.mem_of_getElem? (i := 88) rfl)) rfl)
set_option maxRecDepth 100000 in
theorem mk_X11_image : sw_okV m_X11_image := sw_ckV_in sw_mV6k 24 rfl (sw_T_of (sw_t9 (List.mem_of_getElem? (i := 84) rfl)) rfl)
set_option maxRecDepth 100000 in
theorem mk_X11_octet : sw_okV m_X11_octet := sw_ckV_in sw_mV6k 25 rfl (sw_T_of (sw_t9 (List.mem_of_getElem? (i := 100) rfl)) rfl)
set_option maxRecDepth 100000 in
theorem mk_X11_twoAt : sw_okV m_X11_twoAt := sw_ckV_in sw_mV6k 26 rfl (sw_T_of (sw_t9 (List.mem_of_getElem? (i := 112) rfl)) rfl)
set_option maxRecDepth 100000 in
theorem mk_X11_isSheepTold : sw_okV m_X11_isSheepTold := sw_ckV_in sw_mV6k 27 rfl (sw_T_of (sw_t9 (List.mem_of_getElem? (i := 116) rfl)) rfl)
set_option maxRecDepth 100000 in
theorem mk_X11_isImage : sw_okV m_X11_isImage := sw_ckV_in sw_mV6k 28 rfl (sw_T_of (sw_t9 (List.mem_of_getElem? (i := 108) rfl)) rfl)
set_option maxRecDepth 100000 in
theorem mk_X11_on : sw_okV m_X11_on := sw_ckV_in sw_mV6k 29 rfl (sw_T_of (sw_t9 (List.mem_of_getElem? (i := 104) rfl)) rfl)
set_option maxRecDepth 100000 in
theorem mk_X11_status : sw_okV m_X11_status := sw_ckV_in sw_mV6k 30 rfl (sw_T_of (sw_t9 (List.mem_of_getElem? (i := 120) rfl)) rfl)
def sw_mS0 : List (sw_M × Nat × Nat × Nat × Nat) := [(m_X3_signCode, 794, 131, 793, 0), (m_X3_variableOf, 775, 131, 774, 0), (m_X5_checkOf, 1226, 137, 1225, 0), (m_X11_isIn, 1645, 138, 1644, 0), (m_X11_isLetter, 1609, 138, 1608, 0), (m_X11_isDigit, 1642, 138, 1641, 0), (m_X11_least, 1949, 138, 1948, 0), (m_X11_bits, 1972, 138, 1971, 0), (m_X11_qIsBracket, 1734, 138, 1733, 0), (m_X11_qClip, 1887, 138, 1886, 0), (m_X11_qFloor, 1892, 138, 1891, 0), (m_X11_checked, 2142, 138, 2141, 0), (m_J6_bitCount_0f7a4, 820, 145, 819, 0), (m_J9_floorDiv_7cf53, 902, 139, 901, 0), (m_J9_max_7cf53, 906, 139, 905, 0), (m_J9_max_f86c9, 1208, 139, 1207, 0), (m_J9_min_7cf53, 632, 139, 631, 0), (m_J9_min_f86c9, 1211, 139, 1210, 0), (m_J7_fill_d0a16, 1071, 144, 1070, 0), (m_J7_fill_53178, 805, 144, 804, 0)]
set_option maxRecDepth 1000000 in
theorem sw_mS0k : sw_mS0.all sw_ckS = true := by decide +kernel
set_option maxRecDepth 100000 in
theorem mk_X3_signCode : sw_okS m_X3_signCode := sw_ckS_in sw_mS0k 0 rfl (sw_T_of (sw_t3 (List.mem_of_getElem? (i := 188) rfl)) rfl)
set_option maxRecDepth 100000 in
theorem mk_X3_variableOf : sw_okS m_X3_variableOf := sw_ckS_in sw_mS0k 1 rfl (sw_T_of (sw_t3 (List.mem_of_getElem? (i := 169) rfl)) rfl)
set_option maxRecDepth 100000 in
theorem mk_X5_checkOf : sw_okS m_X5_checkOf := sw_ckS_in sw_mS0k 2 rfl (sw_T_of (sw_t5 (List.mem_of_getElem? (i := 140) rfl)) rfl)
set_option maxRecDepth 100000 in
theorem mk_X11_isIn : sw_okS m_X11_isIn := sw_ckS_in sw_mS0k 3 rfl (sw_T_of (sw_t7 (List.mem_of_getElem? (i := 79) rfl)) rfl)
set_option maxRecDepth 100000 in
theorem mk_X11_isLetter : sw_okS m_X11_isLetter := sw_ckS_in sw_mS0k 4 rfl (sw_T_of (sw_t7 (List.mem_of_getElem? (i := 43) rfl)) rfl)
set_option maxRecDepth 100000 in
theorem mk_X11_isDigit : sw_okS m_X11_isDigit := sw_ckS_in sw_mS0k 5 rfl (sw_T_of (sw_t7 (List.mem_of_getElem? (i := 76) rfl)) rfl)
set_option maxRecDepth 100000 in
theorem mk_X11_least : sw_okS m_X11_least := sw_ckS_in sw_mS0k 6 rfl (sw_T_of (sw_t8 (List.mem_of_getElem? (i := 143) rfl)) rfl)
set_option maxRecDepth 100000 in
theorem mk_X11_bits : sw_okS m_X11_bits := sw_ckS_in sw_mS0k 7 rfl (sw_T_of (sw_t8 (List.mem_of_getElem? (i := 166) rfl)) rfl)
set_option maxRecDepth 100000 in
theorem mk_X11_qIsBracket : sw_okS m_X11_qIsBracket := sw_ckS_in sw_mS0k 8 rfl (sw_T_of (sw_t7 (List.mem_of_getElem? (i := 168) rfl)) rfl)
set_option maxRecDepth 100000 in
theorem mk_X11_qClip : sw_okS m_X11_qClip := sw_ckS_in sw_mS0k 9 rfl (sw_T_of (sw_t8 (List.mem_of_getElem? (i := 81) rfl)) rfl)
set_option maxRecDepth 100000 in
theorem mk_X11_qFloor : sw_okS m_X11_qFloor := sw_ckS_in sw_mS0k 10 rfl (sw_T_of (sw_t8 (List.mem_of_getElem? (i := 86) rfl)) rfl)
set_option maxRecDepth 100000 in
theorem mk_X11_checked : sw_okS m_X11_checked := sw_ckS_in sw_mS0k 11 rfl (sw_T_of (sw_t9 (List.mem_of_getElem? (i := 96) rfl)) rfl)
set_option maxRecDepth 100000 in
theorem mk_J6_bitCount_0f7a4 : sw_okS m_J6_bitCount_0f7a4 := sw_ckS_in sw_mS0k 12 rfl (sw_T_of (sw_t3 (List.mem_of_getElem? (i := 214) rfl)) rfl)
set_option maxRecDepth 100000 in
theorem mk_J9_floorDiv_7cf53 : sw_okS m_J9_floorDiv_7cf53 := sw_ckS_in sw_mS0k 13 rfl (sw_T_of (sw_t4 (List.mem_of_getElem? (i := 56) rfl)) rfl)
set_option maxRecDepth 100000 in
theorem mk_J9_max_7cf53 : sw_okS m_J9_max_7cf53 := sw_ckS_in sw_mS0k 14 rfl (sw_T_of (sw_t4 (List.mem_of_getElem? (i := 60) rfl)) rfl)
set_option maxRecDepth 100000 in
theorem mk_J9_max_f86c9 : sw_okS m_J9_max_f86c9 := sw_ckS_in sw_mS0k 15 rfl (sw_T_of (sw_t5 (List.mem_of_getElem? (i := 122) rfl)) rfl)
set_option maxRecDepth 100000 in
theorem mk_J9_min_7cf53 : sw_okS m_J9_min_7cf53 := sw_ckS_in sw_mS0k 16 rfl (sw_T_of (sw_t3 (List.mem_of_getElem? (i := 26) rfl)) rfl)
set_option maxRecDepth 100000 in
theorem mk_J9_min_f86c9 : sw_okS m_J9_min_f86c9 := sw_ckS_in sw_mS0k 17 rfl (sw_T_of (sw_t5 (List.mem_of_getElem? (i := 125) rfl)) rfl)
set_option maxRecDepth 100000 in
theorem mk_J7_fill_d0a16 : sw_okS m_J7_fill_d0a16 := sw_ckS_in sw_mS0k 18 rfl (sw_T_of (sw_t4 (List.mem_of_getElem? (i := 225) rfl)) rfl)
set_option maxRecDepth 100000 in
theorem mk_J7_fill_53178 : sw_okS m_J7_fill_53178 := sw_ckS_in sw_mS0k 19 rfl (sw_T_of (sw_t3 (List.mem_of_getElem? (i := 199) rfl)) rfl)
def sw_ln0 : List (Nat × Cond) := [(601, Cond.methodLink (sw_nm 10) 94 yX10_refuse), (605, Cond.methodLink (sw_nm 10) 98 yX10_putBytes), (617, Cond.methodLink (sw_nm 10) 102 yX10_takeTape), (621, Cond.methodLink (sw_nm 10) 106 yX3_readUpland), (799, Cond.methodLink (sw_nm 10) 113 yX8_begin), (806, Cond.methodLink (sw_nm 10) 117 yX4_clear), (818, Cond.methodLink (sw_nm 10) 147 yJ6_bitCount_0f7a4), (824, Cond.methodLink (sw_nm 10) 155 yX8_allMiles), (832, Cond.methodLink (sw_nm 10) 164 yX10_isField), (836, Cond.methodLink (sw_nm 10) 171 yX10_isSheep), (848, Cond.methodLink (sw_nm 10) 180 yX10_isGap), (864, Cond.methodLink (sw_nm 10) 213 yX2_choice), (923, Cond.methodLink (sw_nm 10) 217 yX2_worthOf), (933, Cond.methodLink (sw_nm 10) 220 yX8_keptPart), (941, Cond.methodLink (sw_nm 10) 224 yX10_canCome), (945, Cond.methodLink (sw_nm 10) 228 yX1_look), (968, Cond.methodLink (sw_nm 10) 232 yX1_daysToHome), (981, Cond.methodLink (sw_nm 10) 235 yX1_fewestChanges), (1006, Cond.methodLink (sw_nm 10) 239 yX1_bestRumour), (1014, Cond.methodLink (sw_nm 10) 242 yX1_fewestMiles), (1027, Cond.methodLink (sw_nm 10) 245 yX1_bestWait), (1036, Cond.methodLink (sw_nm 10) 248 yX1_leastCoat), (1048, Cond.methodLink (sw_nm 10) 251 yX1_leastWatch), (1065, Cond.methodLink (sw_nm 10) 256 yX1_countWays), (1080, Cond.methodLink (sw_nm 10) 260 yX1_takeFelt), (1088, Cond.methodLink (sw_nm 10) 264 yX1_fillCrimps), (1092, Cond.methodLink (sw_nm 10) 267 yX1_curiousBits), (1104, Cond.methodLink (sw_nm 10) 270 yX1_telling), (1117, Cond.methodLink (sw_nm 10) 273 yX4_remember), (1127, Cond.methodLink (sw_nm 10) 278 yJ9_min_7cf53), (1132, Cond.methodLink (sw_nm 10) 283 yX2_leads), (1136, Cond.methodLink (sw_nm 10) 287 yX2_passThrough), (1149, Cond.methodLink (sw_nm 10) 291 yX2_passDay), (1162, Cond.methodLink (sw_nm 10) 295 yX10_stormComes), (1177, Cond.methodLink (sw_nm 10) 299 yX4_restore), (1189, Cond.methodLink (sw_nm 10) 302 yX3_readQuestion), (1193, Cond.methodLink (sw_nm 10) 306 yX2_answer), (1216, Cond.methodLink (sw_nm 10) 310 yX5_write), (1235, Cond.methodLink (sw_nm 10) 320 yX5_read), (1244, Cond.methodLink (sw_nm 10) 324 yX8_copyFrom)]
set_option maxRecDepth 1000000 in
theorem sw_ln0k : sw_ckw sw_ln0 = true := by decide +kernel
theorem ln_10_94 : Cond.methodLink (sw_nm 10) 94 yX10_refuse ∈ sw_T := sw_ckw_in sw_ln0k 0 rfl
theorem ln_10_98 : Cond.methodLink (sw_nm 10) 98 yX10_putBytes ∈ sw_T := sw_ckw_in sw_ln0k 1 rfl
theorem ln_10_102 : Cond.methodLink (sw_nm 10) 102 yX10_takeTape ∈ sw_T := sw_ckw_in sw_ln0k 2 rfl
theorem ln_10_106 : Cond.methodLink (sw_nm 10) 106 yX3_readUpland ∈ sw_T := sw_ckw_in sw_ln0k 3 rfl
theorem ln_10_113 : Cond.methodLink (sw_nm 10) 113 yX8_begin ∈ sw_T := sw_ckw_in sw_ln0k 4 rfl
theorem ln_10_117 : Cond.methodLink (sw_nm 10) 117 yX4_clear ∈ sw_T := sw_ckw_in sw_ln0k 5 rfl
theorem ln_10_147 : Cond.methodLink (sw_nm 10) 147 yJ6_bitCount_0f7a4 ∈ sw_T := sw_ckw_in sw_ln0k 6 rfl
theorem ln_10_155 : Cond.methodLink (sw_nm 10) 155 yX8_allMiles ∈ sw_T := sw_ckw_in sw_ln0k 7 rfl
theorem ln_10_164 : Cond.methodLink (sw_nm 10) 164 yX10_isField ∈ sw_T := sw_ckw_in sw_ln0k 8 rfl
theorem ln_10_171 : Cond.methodLink (sw_nm 10) 171 yX10_isSheep ∈ sw_T := sw_ckw_in sw_ln0k 9 rfl
theorem ln_10_180 : Cond.methodLink (sw_nm 10) 180 yX10_isGap ∈ sw_T := sw_ckw_in sw_ln0k 10 rfl
theorem ln_10_213 : Cond.methodLink (sw_nm 10) 213 yX2_choice ∈ sw_T := sw_ckw_in sw_ln0k 11 rfl
theorem ln_10_217 : Cond.methodLink (sw_nm 10) 217 yX2_worthOf ∈ sw_T := sw_ckw_in sw_ln0k 12 rfl
theorem ln_10_220 : Cond.methodLink (sw_nm 10) 220 yX8_keptPart ∈ sw_T := sw_ckw_in sw_ln0k 13 rfl
theorem ln_10_224 : Cond.methodLink (sw_nm 10) 224 yX10_canCome ∈ sw_T := sw_ckw_in sw_ln0k 14 rfl
theorem ln_10_228 : Cond.methodLink (sw_nm 10) 228 yX1_look ∈ sw_T := sw_ckw_in sw_ln0k 15 rfl
theorem ln_10_232 : Cond.methodLink (sw_nm 10) 232 yX1_daysToHome ∈ sw_T := sw_ckw_in sw_ln0k 16 rfl
theorem ln_10_235 : Cond.methodLink (sw_nm 10) 235 yX1_fewestChanges ∈ sw_T := sw_ckw_in sw_ln0k 17 rfl
theorem ln_10_239 : Cond.methodLink (sw_nm 10) 239 yX1_bestRumour ∈ sw_T := sw_ckw_in sw_ln0k 18 rfl
theorem ln_10_242 : Cond.methodLink (sw_nm 10) 242 yX1_fewestMiles ∈ sw_T := sw_ckw_in sw_ln0k 19 rfl
theorem ln_10_245 : Cond.methodLink (sw_nm 10) 245 yX1_bestWait ∈ sw_T := sw_ckw_in sw_ln0k 20 rfl
theorem ln_10_248 : Cond.methodLink (sw_nm 10) 248 yX1_leastCoat ∈ sw_T := sw_ckw_in sw_ln0k 21 rfl
theorem ln_10_251 : Cond.methodLink (sw_nm 10) 251 yX1_leastWatch ∈ sw_T := sw_ckw_in sw_ln0k 22 rfl
theorem ln_10_256 : Cond.methodLink (sw_nm 10) 256 yX1_countWays ∈ sw_T := sw_ckw_in sw_ln0k 23 rfl
theorem ln_10_260 : Cond.methodLink (sw_nm 10) 260 yX1_takeFelt ∈ sw_T := sw_ckw_in sw_ln0k 24 rfl
theorem ln_10_264 : Cond.methodLink (sw_nm 10) 264 yX1_fillCrimps ∈ sw_T := sw_ckw_in sw_ln0k 25 rfl
theorem ln_10_267 : Cond.methodLink (sw_nm 10) 267 yX1_curiousBits ∈ sw_T := sw_ckw_in sw_ln0k 26 rfl
theorem ln_10_270 : Cond.methodLink (sw_nm 10) 270 yX1_telling ∈ sw_T := sw_ckw_in sw_ln0k 27 rfl
theorem ln_10_273 : Cond.methodLink (sw_nm 10) 273 yX4_remember ∈ sw_T := sw_ckw_in sw_ln0k 28 rfl
theorem ln_10_278 : Cond.methodLink (sw_nm 10) 278 yJ9_min_7cf53 ∈ sw_T := sw_ckw_in sw_ln0k 29 rfl
theorem ln_10_283 : Cond.methodLink (sw_nm 10) 283 yX2_leads ∈ sw_T := sw_ckw_in sw_ln0k 30 rfl
theorem ln_10_287 : Cond.methodLink (sw_nm 10) 287 yX2_passThrough ∈ sw_T := sw_ckw_in sw_ln0k 31 rfl
theorem ln_10_291 : Cond.methodLink (sw_nm 10) 291 yX2_passDay ∈ sw_T := sw_ckw_in sw_ln0k 32 rfl
theorem ln_10_295 : Cond.methodLink (sw_nm 10) 295 yX10_stormComes ∈ sw_T := sw_ckw_in sw_ln0k 33 rfl
theorem ln_10_299 : Cond.methodLink (sw_nm 10) 299 yX4_restore ∈ sw_T := sw_ckw_in sw_ln0k 34 rfl
theorem ln_10_302 : Cond.methodLink (sw_nm 10) 302 yX3_readQuestion ∈ sw_T := sw_ckw_in sw_ln0k 35 rfl
theorem ln_10_306 : Cond.methodLink (sw_nm 10) 306 yX2_answer ∈ sw_T := sw_ckw_in sw_ln0k 36 rfl
theorem ln_10_310 : Cond.methodLink (sw_nm 10) 310 yX5_write ∈ sw_T := sw_ckw_in sw_ln0k 37 rfl
theorem ln_10_320 : Cond.methodLink (sw_nm 10) 320 yX5_read ∈ sw_T := sw_ckw_in sw_ln0k 38 rfl
theorem ln_10_324 : Cond.methodLink (sw_nm 10) 324 yX8_copyFrom ∈ sw_T := sw_ckw_in sw_ln0k 39 rfl
def sw_ln1 : List (Nat × Cond) := [(1166, Cond.methodLink (sw_nm 10) 327 yX10_draw), (949, Cond.methodLink (sw_nm 1) 45 yX8_copyOne), (956, Cond.methodLink (sw_nm 1) 51 yX2_goOn), (976, Cond.methodLink (sw_nm 1) 61 yJ9_min_7cf53), (972, Cond.methodLink (sw_nm 1) 67 yX1_daysAtMost), (985, Cond.methodLink (sw_nm 1) 86 yX1_tryDays), (989, Cond.methodLink (sw_nm 1) 90 yX1_isFewer), (994, Cond.methodLink (sw_nm 1) 97 yX2_luring), (995, Cond.methodLink (sw_nm 1) 101 yX2_mostLuring), (996, Cond.methodLink (sw_nm 1) 105 yX1_tryThrough), (1000, Cond.methodLink (sw_nm 1) 109 yX9_beyond), (1001, Cond.methodLink (sw_nm 1) 121 yX2_passThrough), (993, Cond.methodLink (sw_nm 1) 124 yJ6_bitCount_0f7a4), (1018, Cond.methodLink (sw_nm 1) 135 yJ7_fill_53178), (1019, Cond.methodLink (sw_nm 1) 153 yX1_shorten), (1031, Cond.methodLink (sw_nm 1) 157 yX2_worthOf), (1040, Cond.methodLink (sw_nm 1) 161 yX1_milesOf), (1052, Cond.methodLink (sw_nm 1) 164 yX1_fillNear), (1056, Cond.methodLink (sw_nm 1) 167 yX1_watches), (1069, Cond.methodLink (sw_nm 1) 171 yJ7_fill_d0a16), (1072, Cond.methodLink (sw_nm 1) 174 yX1_leadEnds), (1096, Cond.methodLink (sw_nm 1) 183 yX1_curiousBy), (1108, Cond.methodLink (sw_nm 1) 186 yX1_mostLeft), (1112, Cond.methodLink (sw_nm 1) 189 yJ9_max_7cf53), (907, Cond.methodLink (sw_nm 2) 62 yX9_beyond), (868, Cond.methodLink (sw_nm 2) 66 yX2_luring), (915, Cond.methodLink (sw_nm 2) 70 yX2_mostLuring), (872, Cond.methodLink (sw_nm 2) 74 yX2_setSheep), (876, Cond.methodLink (sw_nm 2) 78 yX2_setField), (880, Cond.methodLink (sw_nm 2) 82 yX7_run), (911, Cond.methodLink (sw_nm 2) 89 yX2_pullBy), (927, Cond.methodLink (sw_nm 2) 96 yJ9_min_7cf53), (1153, Cond.methodLink (sw_nm 2) 104 yX2_choice), (960, Cond.methodLink (sw_nm 2) 108 yX2_passThrough), (1154, Cond.methodLink (sw_nm 2) 111 yX8_keep), (928, Cond.methodLink (sw_nm 2) 115 yJ9_max_7cf53), (1198, Cond.methodLink (sw_nm 2) 120 yX2_questionOf), (1206, Cond.methodLink (sw_nm 2) 124 yJ9_max_f86c9), (1209, Cond.methodLink (sw_nm 2) 127 yJ9_min_f86c9), (1202, Cond.methodLink (sw_nm 2) 140 yX7_pop)]
set_option maxRecDepth 1000000 in
theorem sw_ln1k : sw_ckw sw_ln1 = true := by decide +kernel
theorem ln_10_327 : Cond.methodLink (sw_nm 10) 327 yX10_draw ∈ sw_T := sw_ckw_in sw_ln1k 0 rfl
theorem ln_1_45 : Cond.methodLink (sw_nm 1) 45 yX8_copyOne ∈ sw_T := sw_ckw_in sw_ln1k 1 rfl
theorem ln_1_51 : Cond.methodLink (sw_nm 1) 51 yX2_goOn ∈ sw_T := sw_ckw_in sw_ln1k 2 rfl
theorem ln_1_61 : Cond.methodLink (sw_nm 1) 61 yJ9_min_7cf53 ∈ sw_T := sw_ckw_in sw_ln1k 3 rfl
theorem ln_1_67 : Cond.methodLink (sw_nm 1) 67 yX1_daysAtMost ∈ sw_T := sw_ckw_in sw_ln1k 4 rfl
theorem ln_1_86 : Cond.methodLink (sw_nm 1) 86 yX1_tryDays ∈ sw_T := sw_ckw_in sw_ln1k 5 rfl
theorem ln_1_90 : Cond.methodLink (sw_nm 1) 90 yX1_isFewer ∈ sw_T := sw_ckw_in sw_ln1k 6 rfl
theorem ln_1_97 : Cond.methodLink (sw_nm 1) 97 yX2_luring ∈ sw_T := sw_ckw_in sw_ln1k 7 rfl
theorem ln_1_101 : Cond.methodLink (sw_nm 1) 101 yX2_mostLuring ∈ sw_T := sw_ckw_in sw_ln1k 8 rfl
theorem ln_1_105 : Cond.methodLink (sw_nm 1) 105 yX1_tryThrough ∈ sw_T := sw_ckw_in sw_ln1k 9 rfl
theorem ln_1_109 : Cond.methodLink (sw_nm 1) 109 yX9_beyond ∈ sw_T := sw_ckw_in sw_ln1k 10 rfl
theorem ln_1_121 : Cond.methodLink (sw_nm 1) 121 yX2_passThrough ∈ sw_T := sw_ckw_in sw_ln1k 11 rfl
theorem ln_1_124 : Cond.methodLink (sw_nm 1) 124 yJ6_bitCount_0f7a4 ∈ sw_T := sw_ckw_in sw_ln1k 12 rfl
theorem ln_1_135 : Cond.methodLink (sw_nm 1) 135 yJ7_fill_53178 ∈ sw_T := sw_ckw_in sw_ln1k 13 rfl
theorem ln_1_153 : Cond.methodLink (sw_nm 1) 153 yX1_shorten ∈ sw_T := sw_ckw_in sw_ln1k 14 rfl
theorem ln_1_157 : Cond.methodLink (sw_nm 1) 157 yX2_worthOf ∈ sw_T := sw_ckw_in sw_ln1k 15 rfl
theorem ln_1_161 : Cond.methodLink (sw_nm 1) 161 yX1_milesOf ∈ sw_T := sw_ckw_in sw_ln1k 16 rfl
theorem ln_1_164 : Cond.methodLink (sw_nm 1) 164 yX1_fillNear ∈ sw_T := sw_ckw_in sw_ln1k 17 rfl
theorem ln_1_167 : Cond.methodLink (sw_nm 1) 167 yX1_watches ∈ sw_T := sw_ckw_in sw_ln1k 18 rfl
theorem ln_1_171 : Cond.methodLink (sw_nm 1) 171 yJ7_fill_d0a16 ∈ sw_T := sw_ckw_in sw_ln1k 19 rfl
theorem ln_1_174 : Cond.methodLink (sw_nm 1) 174 yX1_leadEnds ∈ sw_T := sw_ckw_in sw_ln1k 20 rfl
theorem ln_1_183 : Cond.methodLink (sw_nm 1) 183 yX1_curiousBy ∈ sw_T := sw_ckw_in sw_ln1k 21 rfl
theorem ln_1_186 : Cond.methodLink (sw_nm 1) 186 yX1_mostLeft ∈ sw_T := sw_ckw_in sw_ln1k 22 rfl
theorem ln_1_189 : Cond.methodLink (sw_nm 1) 189 yJ9_max_7cf53 ∈ sw_T := sw_ckw_in sw_ln1k 23 rfl
theorem ln_2_62 : Cond.methodLink (sw_nm 2) 62 yX9_beyond ∈ sw_T := sw_ckw_in sw_ln1k 24 rfl
theorem ln_2_66 : Cond.methodLink (sw_nm 2) 66 yX2_luring ∈ sw_T := sw_ckw_in sw_ln1k 25 rfl
theorem ln_2_70 : Cond.methodLink (sw_nm 2) 70 yX2_mostLuring ∈ sw_T := sw_ckw_in sw_ln1k 26 rfl
theorem ln_2_74 : Cond.methodLink (sw_nm 2) 74 yX2_setSheep ∈ sw_T := sw_ckw_in sw_ln1k 27 rfl
theorem ln_2_78 : Cond.methodLink (sw_nm 2) 78 yX2_setField ∈ sw_T := sw_ckw_in sw_ln1k 28 rfl
theorem ln_2_82 : Cond.methodLink (sw_nm 2) 82 yX7_run ∈ sw_T := sw_ckw_in sw_ln1k 29 rfl
theorem ln_2_89 : Cond.methodLink (sw_nm 2) 89 yX2_pullBy ∈ sw_T := sw_ckw_in sw_ln1k 30 rfl
theorem ln_2_96 : Cond.methodLink (sw_nm 2) 96 yJ9_min_7cf53 ∈ sw_T := sw_ckw_in sw_ln1k 31 rfl
theorem ln_2_104 : Cond.methodLink (sw_nm 2) 104 yX2_choice ∈ sw_T := sw_ckw_in sw_ln1k 32 rfl
theorem ln_2_108 : Cond.methodLink (sw_nm 2) 108 yX2_passThrough ∈ sw_T := sw_ckw_in sw_ln1k 33 rfl
theorem ln_2_111 : Cond.methodLink (sw_nm 2) 111 yX8_keep ∈ sw_T := sw_ckw_in sw_ln1k 34 rfl
theorem ln_2_115 : Cond.methodLink (sw_nm 2) 115 yJ9_max_7cf53 ∈ sw_T := sw_ckw_in sw_ln1k 35 rfl
theorem ln_2_120 : Cond.methodLink (sw_nm 2) 120 yX2_questionOf ∈ sw_T := sw_ckw_in sw_ln1k 36 rfl
theorem ln_2_124 : Cond.methodLink (sw_nm 2) 124 yJ9_max_f86c9 ∈ sw_T := sw_ckw_in sw_ln1k 37 rfl
theorem ln_2_127 : Cond.methodLink (sw_nm 2) 127 yJ9_min_f86c9 ∈ sw_T := sw_ckw_in sw_ln1k 38 rfl
theorem ln_2_140 : Cond.methodLink (sw_nm 2) 140 yX7_pop ∈ sw_T := sw_ckw_in sw_ln1k 39 rfl
def sw_ln2 : List (Nat × Cond) := [(1203, Cond.methodLink (sw_nm 2) 147 yX7_push), (1204, Cond.methodLink (sw_nm 2) 151 yX2_leads), (1205, Cond.methodLink (sw_nm 2) 155 yX7_step), (625, Cond.methodLink (sw_nm 3) 30 yX9_clear), (626, Cond.methodLink (sw_nm 3) 33 yX6_open), (698, Cond.methodLink (sw_nm 3) 48 yX6_fail), (702, Cond.methodLink (sw_nm 3) 52 yX3_statement), (728, Cond.methodLink (sw_nm 3) 56 yX6_expect), (710, Cond.methodLink (sw_nm 3) 65 yX6_advance), (780, Cond.methodLink (sw_nm 3) 68 yX3_test), (756, Cond.methodLink (sw_nm 3) 71 yX3_sum), (706, Cond.methodLink (sw_nm 3) 74 yX3_fieldStatement), (736, Cond.methodLink (sw_nm 3) 77 yX3_gapStatement), (744, Cond.methodLink (sw_nm 3) 80 yX3_shutStatement), (748, Cond.methodLink (sw_nm 3) 83 yX3_sheepStatement), (752, Cond.methodLink (sw_nm 3) 86 yX3_beginFormula), (776, Cond.methodLink (sw_nm 3) 89 yX3_endFormula), (795, Cond.methodLink (sw_nm 3) 92 yX3_stormStatement), (711, Cond.methodLink (sw_nm 3) 98 yX3_newName), (732, Cond.methodLink (sw_nm 3) 102 yX6_takeNumber), (740, Cond.methodLink (sw_nm 3) 116 yX3_knownField), (715, Cond.methodLink (sw_nm 3) 156 yX6_takeName), (720, Cond.methodLink (sw_nm 3) 159 yX9_fieldNamed), (724, Cond.methodLink (sw_nm 3) 162 yX9_sheepNamed), (784, Cond.methodLink (sw_nm 3) 168 yX3_both), (768, Cond.methodLink (sw_nm 3) 171 yX0_emit), (788, Cond.methodLink (sw_nm 3) 175 yX3_fact), (769, Cond.methodLink (sw_nm 3) 178 yX3_opens), (792, Cond.methodLink (sw_nm 3) 181 yX3_signCode), (760, Cond.methodLink (sw_nm 3) 184 yX3_product), (764, Cond.methodLink (sw_nm 3) 187 yX3_part), (773, Cond.methodLink (sw_nm 3) 190 yX3_variableOf), (1121, Cond.methodLink (sw_nm 4) 25 yX8_copyFrom), (1125, Cond.methodLink (sw_nm 4) 29 yJ9_min_7cf53), (1220, Cond.methodLink (sw_nm 5) 24 yX5_put), (1224, Cond.methodLink (sw_nm 5) 61 yX5_checkOf), (1239, Cond.methodLink (sw_nm 5) 72 yX5_take), (630, Cond.methodLink (sw_nm 6) 22 yJ9_min_7cf53), (633, Cond.methodLink (sw_nm 6) 37 yX6_advance), (637, Cond.methodLink (sw_nm 6) 43 yX6_isLetter)]
set_option maxRecDepth 1000000 in
theorem sw_ln2k : sw_ckw sw_ln2 = true := by decide +kernel
theorem ln_2_147 : Cond.methodLink (sw_nm 2) 147 yX7_push ∈ sw_T := sw_ckw_in sw_ln2k 0 rfl
theorem ln_2_151 : Cond.methodLink (sw_nm 2) 151 yX2_leads ∈ sw_T := sw_ckw_in sw_ln2k 1 rfl
theorem ln_2_155 : Cond.methodLink (sw_nm 2) 155 yX7_step ∈ sw_T := sw_ckw_in sw_ln2k 2 rfl
theorem ln_3_30 : Cond.methodLink (sw_nm 3) 30 yX9_clear ∈ sw_T := sw_ckw_in sw_ln2k 3 rfl
theorem ln_3_33 : Cond.methodLink (sw_nm 3) 33 yX6_open ∈ sw_T := sw_ckw_in sw_ln2k 4 rfl
theorem ln_3_48 : Cond.methodLink (sw_nm 3) 48 yX6_fail ∈ sw_T := sw_ckw_in sw_ln2k 5 rfl
theorem ln_3_52 : Cond.methodLink (sw_nm 3) 52 yX3_statement ∈ sw_T := sw_ckw_in sw_ln2k 6 rfl
theorem ln_3_56 : Cond.methodLink (sw_nm 3) 56 yX6_expect ∈ sw_T := sw_ckw_in sw_ln2k 7 rfl
theorem ln_3_65 : Cond.methodLink (sw_nm 3) 65 yX6_advance ∈ sw_T := sw_ckw_in sw_ln2k 8 rfl
theorem ln_3_68 : Cond.methodLink (sw_nm 3) 68 yX3_test ∈ sw_T := sw_ckw_in sw_ln2k 9 rfl
theorem ln_3_71 : Cond.methodLink (sw_nm 3) 71 yX3_sum ∈ sw_T := sw_ckw_in sw_ln2k 10 rfl
theorem ln_3_74 : Cond.methodLink (sw_nm 3) 74 yX3_fieldStatement ∈ sw_T := sw_ckw_in sw_ln2k 11 rfl
theorem ln_3_77 : Cond.methodLink (sw_nm 3) 77 yX3_gapStatement ∈ sw_T := sw_ckw_in sw_ln2k 12 rfl
theorem ln_3_80 : Cond.methodLink (sw_nm 3) 80 yX3_shutStatement ∈ sw_T := sw_ckw_in sw_ln2k 13 rfl
theorem ln_3_83 : Cond.methodLink (sw_nm 3) 83 yX3_sheepStatement ∈ sw_T := sw_ckw_in sw_ln2k 14 rfl
theorem ln_3_86 : Cond.methodLink (sw_nm 3) 86 yX3_beginFormula ∈ sw_T := sw_ckw_in sw_ln2k 15 rfl
theorem ln_3_89 : Cond.methodLink (sw_nm 3) 89 yX3_endFormula ∈ sw_T := sw_ckw_in sw_ln2k 16 rfl
theorem ln_3_92 : Cond.methodLink (sw_nm 3) 92 yX3_stormStatement ∈ sw_T := sw_ckw_in sw_ln2k 17 rfl
theorem ln_3_98 : Cond.methodLink (sw_nm 3) 98 yX3_newName ∈ sw_T := sw_ckw_in sw_ln2k 18 rfl
theorem ln_3_102 : Cond.methodLink (sw_nm 3) 102 yX6_takeNumber ∈ sw_T := sw_ckw_in sw_ln2k 19 rfl
theorem ln_3_116 : Cond.methodLink (sw_nm 3) 116 yX3_knownField ∈ sw_T := sw_ckw_in sw_ln2k 20 rfl
theorem ln_3_156 : Cond.methodLink (sw_nm 3) 156 yX6_takeName ∈ sw_T := sw_ckw_in sw_ln2k 21 rfl
theorem ln_3_159 : Cond.methodLink (sw_nm 3) 159 yX9_fieldNamed ∈ sw_T := sw_ckw_in sw_ln2k 22 rfl
theorem ln_3_162 : Cond.methodLink (sw_nm 3) 162 yX9_sheepNamed ∈ sw_T := sw_ckw_in sw_ln2k 23 rfl
theorem ln_3_168 : Cond.methodLink (sw_nm 3) 168 yX3_both ∈ sw_T := sw_ckw_in sw_ln2k 24 rfl
theorem ln_3_171 : Cond.methodLink (sw_nm 3) 171 yX0_emit ∈ sw_T := sw_ckw_in sw_ln2k 25 rfl
theorem ln_3_175 : Cond.methodLink (sw_nm 3) 175 yX3_fact ∈ sw_T := sw_ckw_in sw_ln2k 26 rfl
theorem ln_3_178 : Cond.methodLink (sw_nm 3) 178 yX3_opens ∈ sw_T := sw_ckw_in sw_ln2k 27 rfl
theorem ln_3_181 : Cond.methodLink (sw_nm 3) 181 yX3_signCode ∈ sw_T := sw_ckw_in sw_ln2k 28 rfl
theorem ln_3_184 : Cond.methodLink (sw_nm 3) 184 yX3_product ∈ sw_T := sw_ckw_in sw_ln2k 29 rfl
theorem ln_3_187 : Cond.methodLink (sw_nm 3) 187 yX3_part ∈ sw_T := sw_ckw_in sw_ln2k 30 rfl
theorem ln_3_190 : Cond.methodLink (sw_nm 3) 190 yX3_variableOf ∈ sw_T := sw_ckw_in sw_ln2k 31 rfl
theorem ln_4_25 : Cond.methodLink (sw_nm 4) 25 yX8_copyFrom ∈ sw_T := sw_ckw_in sw_ln2k 32 rfl
theorem ln_4_29 : Cond.methodLink (sw_nm 4) 29 yJ9_min_7cf53 ∈ sw_T := sw_ckw_in sw_ln2k 33 rfl
theorem ln_5_24 : Cond.methodLink (sw_nm 5) 24 yX5_put ∈ sw_T := sw_ckw_in sw_ln2k 34 rfl
theorem ln_5_61 : Cond.methodLink (sw_nm 5) 61 yX5_checkOf ∈ sw_T := sw_ckw_in sw_ln2k 35 rfl
theorem ln_5_72 : Cond.methodLink (sw_nm 5) 72 yX5_take ∈ sw_T := sw_ckw_in sw_ln2k 36 rfl
theorem ln_6_22 : Cond.methodLink (sw_nm 6) 22 yJ9_min_7cf53 ∈ sw_T := sw_ckw_in sw_ln2k 37 rfl
theorem ln_6_37 : Cond.methodLink (sw_nm 6) 37 yX6_advance ∈ sw_T := sw_ckw_in sw_ln2k 38 rfl
theorem ln_6_43 : Cond.methodLink (sw_nm 6) 43 yX6_isLetter ∈ sw_T := sw_ckw_in sw_ln2k 39 rfl
def sw_ln3 : List (Nat × Cond) := [(641, Cond.methodLink (sw_nm 6) 47 yX6_wordKind), (694, Cond.methodLink (sw_nm 6) 51 yX6_isDigit), (719, Cond.methodLink (sw_nm 6) 64 yX6_fail), (884, Cond.methodLink (sw_nm 7) 39 yX7_step), (888, Cond.methodLink (sw_nm 7) 43 yX7_push), (896, Cond.methodLink (sw_nm 7) 47 yX7_pop), (900, Cond.methodLink (sw_nm 7) 51 yJ9_floorDiv_7cf53), (903, Cond.methodLink (sw_nm 7) 57 yJ9_min_7cf53), (904, Cond.methodLink (sw_nm 7) 60 yJ9_max_7cf53), (803, Cond.methodLink (sw_nm 8) 54 yJ7_fill_53178), (216, Cond.methodLink (sw_nm 9) 49 yX9_clear), (220, Cond.methodLink (sw_nm 9) 77 yX0_emit), (224, Cond.methodLink (sw_nm 9) 81 yX9_setFormula), (1587, Cond.methodLink (sw_nm 11) 260 yX11_look), (1607, Cond.methodLink (sw_nm 11) 264 yX11_isLetter), (1603, Cond.methodLink (sw_nm 11) 271 yX11_isHere), (1599, Cond.methodLink (sw_nm 11) 275 yX11_takes), (1595, Cond.methodLink (sw_nm 11) 278 yX11_fail), (1708, Cond.methodLink (sw_nm 11) 282 yX11_takesSign), (1640, Cond.methodLink (sw_nm 11) 285 yX11_isDigit), (1643, Cond.methodLink (sw_nm 11) 291 yX11_isIn), (1626, Cond.methodLink (sw_nm 11) 295 yX11_isOwnHere), (1622, Cond.methodLink (sw_nm 11) 313 yX11_name), (1614, Cond.methodLink (sw_nm 11) 317 yX11_isFull), (1618, Cond.methodLink (sw_nm 11) 321 yX11_newName), (1632, Cond.methodLink (sw_nm 11) 324 yX11_asks), (1636, Cond.methodLink (sw_nm 11) 328 yX11_number), (1650, Cond.methodLink (sw_nm 11) 332 yX11_fieldNamed), (1666, Cond.methodLink (sw_nm 11) 348 yX11_qTest), (1682, Cond.methodLink (sw_nm 11) 351 yX11_qSums), (1610, Cond.methodLink (sw_nm 11) 360 yX11_fieldTold), (1646, Cond.methodLink (sw_nm 11) 364 yX11_gapTold), (1654, Cond.methodLink (sw_nm 11) 367 yX11_shutTold), (1658, Cond.methodLink (sw_nm 11) 370 yX11_sheepTold), (1662, Cond.methodLink (sw_nm 11) 373 yX11_codesTold), (1704, Cond.methodLink (sw_nm 11) 376 yX11_asksSign), (1591, Cond.methodLink (sw_nm 11) 379 yX11_statementTold), (1755, Cond.methodLink (sw_nm 11) 385 yX11_stands), (1767, Cond.methodLink (sw_nm 11) 394 yX11_fieldMany), (1775, Cond.methodLink (sw_nm 11) 397 yX11_sheepMany)]
set_option maxRecDepth 1000000 in
theorem sw_ln3k : sw_ckw sw_ln3 = true := by decide +kernel
theorem ln_6_47 : Cond.methodLink (sw_nm 6) 47 yX6_wordKind ∈ sw_T := sw_ckw_in sw_ln3k 0 rfl
theorem ln_6_51 : Cond.methodLink (sw_nm 6) 51 yX6_isDigit ∈ sw_T := sw_ckw_in sw_ln3k 1 rfl
theorem ln_6_64 : Cond.methodLink (sw_nm 6) 64 yX6_fail ∈ sw_T := sw_ckw_in sw_ln3k 2 rfl
theorem ln_7_39 : Cond.methodLink (sw_nm 7) 39 yX7_step ∈ sw_T := sw_ckw_in sw_ln3k 3 rfl
theorem ln_7_43 : Cond.methodLink (sw_nm 7) 43 yX7_push ∈ sw_T := sw_ckw_in sw_ln3k 4 rfl
theorem ln_7_47 : Cond.methodLink (sw_nm 7) 47 yX7_pop ∈ sw_T := sw_ckw_in sw_ln3k 5 rfl
theorem ln_7_51 : Cond.methodLink (sw_nm 7) 51 yJ9_floorDiv_7cf53 ∈ sw_T := sw_ckw_in sw_ln3k 6 rfl
theorem ln_7_57 : Cond.methodLink (sw_nm 7) 57 yJ9_min_7cf53 ∈ sw_T := sw_ckw_in sw_ln3k 7 rfl
theorem ln_7_60 : Cond.methodLink (sw_nm 7) 60 yJ9_max_7cf53 ∈ sw_T := sw_ckw_in sw_ln3k 8 rfl
theorem ln_8_54 : Cond.methodLink (sw_nm 8) 54 yJ7_fill_53178 ∈ sw_T := sw_ckw_in sw_ln3k 9 rfl
theorem ln_9_49 : Cond.methodLink (sw_nm 9) 49 yX9_clear ∈ sw_T := sw_ckw_in sw_ln3k 10 rfl
theorem ln_9_77 : Cond.methodLink (sw_nm 9) 77 yX0_emit ∈ sw_T := sw_ckw_in sw_ln3k 11 rfl
theorem ln_9_81 : Cond.methodLink (sw_nm 9) 81 yX9_setFormula ∈ sw_T := sw_ckw_in sw_ln3k 12 rfl
theorem ln_11_260 : Cond.methodLink (sw_nm 11) 260 yX11_look ∈ sw_T := sw_ckw_in sw_ln3k 13 rfl
theorem ln_11_264 : Cond.methodLink (sw_nm 11) 264 yX11_isLetter ∈ sw_T := sw_ckw_in sw_ln3k 14 rfl
theorem ln_11_271 : Cond.methodLink (sw_nm 11) 271 yX11_isHere ∈ sw_T := sw_ckw_in sw_ln3k 15 rfl
theorem ln_11_275 : Cond.methodLink (sw_nm 11) 275 yX11_takes ∈ sw_T := sw_ckw_in sw_ln3k 16 rfl
theorem ln_11_278 : Cond.methodLink (sw_nm 11) 278 yX11_fail ∈ sw_T := sw_ckw_in sw_ln3k 17 rfl
theorem ln_11_282 : Cond.methodLink (sw_nm 11) 282 yX11_takesSign ∈ sw_T := sw_ckw_in sw_ln3k 18 rfl
theorem ln_11_285 : Cond.methodLink (sw_nm 11) 285 yX11_isDigit ∈ sw_T := sw_ckw_in sw_ln3k 19 rfl
theorem ln_11_291 : Cond.methodLink (sw_nm 11) 291 yX11_isIn ∈ sw_T := sw_ckw_in sw_ln3k 20 rfl
theorem ln_11_295 : Cond.methodLink (sw_nm 11) 295 yX11_isOwnHere ∈ sw_T := sw_ckw_in sw_ln3k 21 rfl
theorem ln_11_313 : Cond.methodLink (sw_nm 11) 313 yX11_name ∈ sw_T := sw_ckw_in sw_ln3k 22 rfl
theorem ln_11_317 : Cond.methodLink (sw_nm 11) 317 yX11_isFull ∈ sw_T := sw_ckw_in sw_ln3k 23 rfl
theorem ln_11_321 : Cond.methodLink (sw_nm 11) 321 yX11_newName ∈ sw_T := sw_ckw_in sw_ln3k 24 rfl
theorem ln_11_324 : Cond.methodLink (sw_nm 11) 324 yX11_asks ∈ sw_T := sw_ckw_in sw_ln3k 25 rfl
theorem ln_11_328 : Cond.methodLink (sw_nm 11) 328 yX11_number ∈ sw_T := sw_ckw_in sw_ln3k 26 rfl
theorem ln_11_332 : Cond.methodLink (sw_nm 11) 332 yX11_fieldNamed ∈ sw_T := sw_ckw_in sw_ln3k 27 rfl
theorem ln_11_348 : Cond.methodLink (sw_nm 11) 348 yX11_qTest ∈ sw_T := sw_ckw_in sw_ln3k 28 rfl
theorem ln_11_351 : Cond.methodLink (sw_nm 11) 351 yX11_qSums ∈ sw_T := sw_ckw_in sw_ln3k 29 rfl
theorem ln_11_360 : Cond.methodLink (sw_nm 11) 360 yX11_fieldTold ∈ sw_T := sw_ckw_in sw_ln3k 30 rfl
theorem ln_11_364 : Cond.methodLink (sw_nm 11) 364 yX11_gapTold ∈ sw_T := sw_ckw_in sw_ln3k 31 rfl
theorem ln_11_367 : Cond.methodLink (sw_nm 11) 367 yX11_shutTold ∈ sw_T := sw_ckw_in sw_ln3k 32 rfl
theorem ln_11_370 : Cond.methodLink (sw_nm 11) 370 yX11_sheepTold ∈ sw_T := sw_ckw_in sw_ln3k 33 rfl
theorem ln_11_373 : Cond.methodLink (sw_nm 11) 373 yX11_codesTold ∈ sw_T := sw_ckw_in sw_ln3k 34 rfl
theorem ln_11_376 : Cond.methodLink (sw_nm 11) 376 yX11_asksSign ∈ sw_T := sw_ckw_in sw_ln3k 35 rfl
theorem ln_11_379 : Cond.methodLink (sw_nm 11) 379 yX11_statementTold ∈ sw_T := sw_ckw_in sw_ln3k 36 rfl
theorem ln_11_385 : Cond.methodLink (sw_nm 11) 385 yX11_stands ∈ sw_T := sw_ckw_in sw_ln3k 37 rfl
theorem ln_11_394 : Cond.methodLink (sw_nm 11) 394 yX11_fieldMany ∈ sw_T := sw_ckw_in sw_ln3k 38 rfl
theorem ln_11_397 : Cond.methodLink (sw_nm 11) 397 yX11_sheepMany ∈ sw_T := sw_ckw_in sw_ln3k 39 rfl
def sw_ln4 : List (Nat × Cond) := [(1771, Cond.methodLink (sw_nm 11) 400 yX11_gapMany), (1783, Cond.methodLink (sw_nm 11) 406 yX11_isOpen), (1825, Cond.methodLink (sw_nm 11) 409 yX11_fieldOf), (1897, Cond.methodLink (sw_nm 11) 412 yX11_acrossFrom), (1873, Cond.methodLink (sw_nm 11) 421 yX11_qPuts), (1877, Cond.methodLink (sw_nm 11) 425 yX11_qPartOf), (1881, Cond.methodLink (sw_nm 11) 429 yX11_qJoins), (1893, Cond.methodLink (sw_nm 11) 432 yX11_beyond), (1905, Cond.methodLink (sw_nm 11) 438 yX11_milesOf), (1865, Cond.methodLink (sw_nm 11) 444 yX11_isTold), (1869, Cond.methodLink (sw_nm 11) 447 yX11_codesTell), (1849, Cond.methodLink (sw_nm 11) 450 yX11_seenOf), (1791, Cond.methodLink (sw_nm 11) 453 yX11_woolOf), (1861, Cond.methodLink (sw_nm 11) 458 yX11_doesStay), (1901, Cond.methodLink (sw_nm 11) 461 yX11_luresOf), (1947, Cond.methodLink (sw_nm 11) 464 yX11_least), (1833, Cond.methodLink (sw_nm 11) 467 yX11_crimpOf), (1857, Cond.methodLink (sw_nm 11) 474 yX11_gapFor), (1943, Cond.methodLink (sw_nm 11) 477 yX11_goesThrough), (1950, Cond.methodLink (sw_nm 11) 483 yX11_isKept), (1939, Cond.methodLink (sw_nm 11) 486 yX11_sheepGoes), (1985, Cond.methodLink (sw_nm 11) 489 yX11_dayGoes), (1958, Cond.methodLink (sw_nm 11) 492 yX11_triesAnew), (1779, Cond.methodLink (sw_nm 11) 495 yX11_openMany), (1787, Cond.methodLink (sw_nm 11) 498 yX11_woolAll), (1804, Cond.methodLink (sw_nm 11) 503 yX11_isField), (1812, Cond.methodLink (sw_nm 11) 507 yX11_isGap), (1821, Cond.methodLink (sw_nm 11) 512 yX11_isSheep), (1829, Cond.methodLink (sw_nm 11) 515 yX11_curiousOf), (1837, Cond.methodLink (sw_nm 11) 518 yX11_ledOf), (1841, Cond.methodLink (sw_nm 11) 521 yX11_homeOf), (1913, Cond.methodLink (sw_nm 11) 524 yX11_worthOf), (1926, Cond.methodLink (sw_nm 11) 527 yX11_isAhead), (1931, Cond.methodLink (sw_nm 11) 532 yX11_putsAside), (1935, Cond.methodLink (sw_nm 11) 535 yX11_oneGoes), (1954, Cond.methodLink (sw_nm 11) 538 yX11_takesBack), (1970, Cond.methodLink (sw_nm 11) 541 yX11_bits), (1973, Cond.methodLink (sw_nm 11) 544 yX11_changes), (1981, Cond.methodLink (sw_nm 11) 547 yX11_daysGo), (1993, Cond.methodLink (sw_nm 11) 550 yX11_isCheaper)]
set_option maxRecDepth 1000000 in
theorem sw_ln4k : sw_ckw sw_ln4 = true := by decide +kernel
theorem ln_11_400 : Cond.methodLink (sw_nm 11) 400 yX11_gapMany ∈ sw_T := sw_ckw_in sw_ln4k 0 rfl
theorem ln_11_406 : Cond.methodLink (sw_nm 11) 406 yX11_isOpen ∈ sw_T := sw_ckw_in sw_ln4k 1 rfl
theorem ln_11_409 : Cond.methodLink (sw_nm 11) 409 yX11_fieldOf ∈ sw_T := sw_ckw_in sw_ln4k 2 rfl
theorem ln_11_412 : Cond.methodLink (sw_nm 11) 412 yX11_acrossFrom ∈ sw_T := sw_ckw_in sw_ln4k 3 rfl
theorem ln_11_421 : Cond.methodLink (sw_nm 11) 421 yX11_qPuts ∈ sw_T := sw_ckw_in sw_ln4k 4 rfl
theorem ln_11_425 : Cond.methodLink (sw_nm 11) 425 yX11_qPartOf ∈ sw_T := sw_ckw_in sw_ln4k 5 rfl
theorem ln_11_429 : Cond.methodLink (sw_nm 11) 429 yX11_qJoins ∈ sw_T := sw_ckw_in sw_ln4k 6 rfl
theorem ln_11_432 : Cond.methodLink (sw_nm 11) 432 yX11_beyond ∈ sw_T := sw_ckw_in sw_ln4k 7 rfl
theorem ln_11_438 : Cond.methodLink (sw_nm 11) 438 yX11_milesOf ∈ sw_T := sw_ckw_in sw_ln4k 8 rfl
theorem ln_11_444 : Cond.methodLink (sw_nm 11) 444 yX11_isTold ∈ sw_T := sw_ckw_in sw_ln4k 9 rfl
theorem ln_11_447 : Cond.methodLink (sw_nm 11) 447 yX11_codesTell ∈ sw_T := sw_ckw_in sw_ln4k 10 rfl
theorem ln_11_450 : Cond.methodLink (sw_nm 11) 450 yX11_seenOf ∈ sw_T := sw_ckw_in sw_ln4k 11 rfl
theorem ln_11_453 : Cond.methodLink (sw_nm 11) 453 yX11_woolOf ∈ sw_T := sw_ckw_in sw_ln4k 12 rfl
theorem ln_11_458 : Cond.methodLink (sw_nm 11) 458 yX11_doesStay ∈ sw_T := sw_ckw_in sw_ln4k 13 rfl
theorem ln_11_461 : Cond.methodLink (sw_nm 11) 461 yX11_luresOf ∈ sw_T := sw_ckw_in sw_ln4k 14 rfl
theorem ln_11_464 : Cond.methodLink (sw_nm 11) 464 yX11_least ∈ sw_T := sw_ckw_in sw_ln4k 15 rfl
theorem ln_11_467 : Cond.methodLink (sw_nm 11) 467 yX11_crimpOf ∈ sw_T := sw_ckw_in sw_ln4k 16 rfl
theorem ln_11_474 : Cond.methodLink (sw_nm 11) 474 yX11_gapFor ∈ sw_T := sw_ckw_in sw_ln4k 17 rfl
theorem ln_11_477 : Cond.methodLink (sw_nm 11) 477 yX11_goesThrough ∈ sw_T := sw_ckw_in sw_ln4k 18 rfl
theorem ln_11_483 : Cond.methodLink (sw_nm 11) 483 yX11_isKept ∈ sw_T := sw_ckw_in sw_ln4k 19 rfl
theorem ln_11_486 : Cond.methodLink (sw_nm 11) 486 yX11_sheepGoes ∈ sw_T := sw_ckw_in sw_ln4k 20 rfl
theorem ln_11_489 : Cond.methodLink (sw_nm 11) 489 yX11_dayGoes ∈ sw_T := sw_ckw_in sw_ln4k 21 rfl
theorem ln_11_492 : Cond.methodLink (sw_nm 11) 492 yX11_triesAnew ∈ sw_T := sw_ckw_in sw_ln4k 22 rfl
theorem ln_11_495 : Cond.methodLink (sw_nm 11) 495 yX11_openMany ∈ sw_T := sw_ckw_in sw_ln4k 23 rfl
theorem ln_11_498 : Cond.methodLink (sw_nm 11) 498 yX11_woolAll ∈ sw_T := sw_ckw_in sw_ln4k 24 rfl
theorem ln_11_503 : Cond.methodLink (sw_nm 11) 503 yX11_isField ∈ sw_T := sw_ckw_in sw_ln4k 25 rfl
theorem ln_11_507 : Cond.methodLink (sw_nm 11) 507 yX11_isGap ∈ sw_T := sw_ckw_in sw_ln4k 26 rfl
theorem ln_11_512 : Cond.methodLink (sw_nm 11) 512 yX11_isSheep ∈ sw_T := sw_ckw_in sw_ln4k 27 rfl
theorem ln_11_515 : Cond.methodLink (sw_nm 11) 515 yX11_curiousOf ∈ sw_T := sw_ckw_in sw_ln4k 28 rfl
theorem ln_11_518 : Cond.methodLink (sw_nm 11) 518 yX11_ledOf ∈ sw_T := sw_ckw_in sw_ln4k 29 rfl
theorem ln_11_521 : Cond.methodLink (sw_nm 11) 521 yX11_homeOf ∈ sw_T := sw_ckw_in sw_ln4k 30 rfl
theorem ln_11_524 : Cond.methodLink (sw_nm 11) 524 yX11_worthOf ∈ sw_T := sw_ckw_in sw_ln4k 31 rfl
theorem ln_11_527 : Cond.methodLink (sw_nm 11) 527 yX11_isAhead ∈ sw_T := sw_ckw_in sw_ln4k 32 rfl
theorem ln_11_532 : Cond.methodLink (sw_nm 11) 532 yX11_putsAside ∈ sw_T := sw_ckw_in sw_ln4k 33 rfl
theorem ln_11_535 : Cond.methodLink (sw_nm 11) 535 yX11_oneGoes ∈ sw_T := sw_ckw_in sw_ln4k 34 rfl
theorem ln_11_538 : Cond.methodLink (sw_nm 11) 538 yX11_takesBack ∈ sw_T := sw_ckw_in sw_ln4k 35 rfl
theorem ln_11_541 : Cond.methodLink (sw_nm 11) 541 yX11_bits ∈ sw_T := sw_ckw_in sw_ln4k 36 rfl
theorem ln_11_544 : Cond.methodLink (sw_nm 11) 544 yX11_changes ∈ sw_T := sw_ckw_in sw_ln4k 37 rfl
theorem ln_11_547 : Cond.methodLink (sw_nm 11) 547 yX11_daysGo ∈ sw_T := sw_ckw_in sw_ln4k 38 rfl
theorem ln_11_550 : Cond.methodLink (sw_nm 11) 550 yX11_isCheaper ∈ sw_T := sw_ckw_in sw_ln4k 39 rfl
def sw_ln5 : List (Nat × Cond) := [(2005, Cond.methodLink (sw_nm 11) 553 yX11_milesBy), (2013, Cond.methodLink (sw_nm 11) 556 yX11_watchers), (2024, Cond.methodLink (sw_nm 11) 565 yX11_waysGo), (2032, Cond.methodLink (sw_nm 11) 568 yX11_refuses), (2044, Cond.methodLink (sw_nm 11) 571 yX11_isAsFelt), (2040, Cond.methodLink (sw_nm 11) 574 yX11_curiousSet), (2052, Cond.methodLink (sw_nm 11) 577 yX11_mostAlike), (2064, Cond.methodLink (sw_nm 11) 583 yX11_keeps), (2073, Cond.methodLink (sw_nm 11) 587 yX11_isRefused), (2098, Cond.methodLink (sw_nm 11) 600 yX11_drawOf), (1678, Cond.methodLink (sw_nm 11) 603 yX11_qCode), (1732, Cond.methodLink (sw_nm 11) 606 yX11_qIsBracket), (1720, Cond.methodLink (sw_nm 11) 609 yX11_qDrops), (1694, Cond.methodLink (sw_nm 11) 612 yX11_qWordHere), (1698, Cond.methodLink (sw_nm 11) 615 yX11_isAllowed), (1690, Cond.methodLink (sw_nm 11) 618 yX11_qWordOf), (1670, Cond.methodLink (sw_nm 11) 621 yX11_qOpens), (1712, Cond.methodLink (sw_nm 11) 624 yX11_qAsksWord), (1716, Cond.methodLink (sw_nm 11) 627 yX11_qEndsPart), (1728, Cond.methodLink (sw_nm 11) 630 yX11_qBracket), (1735, Cond.methodLink (sw_nm 11) 633 yX11_qDropsToBracket), (1739, Cond.methodLink (sw_nm 11) 636 yX11_qIsOn), (1686, Cond.methodLink (sw_nm 11) 639 yX11_qPartTold), (1724, Cond.methodLink (sw_nm 11) 642 yX11_qGoesOn), (1674, Cond.methodLink (sw_nm 11) 645 yX11_qFact), (1743, Cond.methodLink (sw_nm 11) 648 yX11_qDropsNots), (1747, Cond.methodLink (sw_nm 11) 651 yX11_qGoesOnTest), (1751, Cond.methodLink (sw_nm 11) 654 yX11_qHasSquare), (1885, Cond.methodLink (sw_nm 11) 661 yX11_qClip), (1890, Cond.methodLink (sw_nm 11) 665 yX11_qFloor), (2119, Cond.methodLink (sw_nm 11) 669 yX11_qOf), (2110, Cond.methodLink (sw_nm 11) 681 yX11_qKind), (2115, Cond.methodLink (sw_nm 11) 684 yX11_qTold), (2123, Cond.methodLink (sw_nm 11) 688 yX11_qTakes), (2135, Cond.methodLink (sw_nm 11) 695 yX11_writes), (2131, Cond.methodLink (sw_nm 11) 698 yX11_writesTwo), (2140, Cond.methodLink (sw_nm 11) 702 yX11_checked), (2155, Cond.methodLink (sw_nm 11) 706 yX11_twoAt), (2159, Cond.methodLink (sw_nm 11) 709 yX11_isSheepTold), (2151, Cond.methodLink (sw_nm 11) 712 yX11_isImage)]
set_option maxRecDepth 1000000 in
theorem sw_ln5k : sw_ckw sw_ln5 = true := by decide +kernel
theorem ln_11_553 : Cond.methodLink (sw_nm 11) 553 yX11_milesBy ∈ sw_T := sw_ckw_in sw_ln5k 0 rfl
theorem ln_11_556 : Cond.methodLink (sw_nm 11) 556 yX11_watchers ∈ sw_T := sw_ckw_in sw_ln5k 1 rfl
theorem ln_11_565 : Cond.methodLink (sw_nm 11) 565 yX11_waysGo ∈ sw_T := sw_ckw_in sw_ln5k 2 rfl
theorem ln_11_568 : Cond.methodLink (sw_nm 11) 568 yX11_refuses ∈ sw_T := sw_ckw_in sw_ln5k 3 rfl
theorem ln_11_571 : Cond.methodLink (sw_nm 11) 571 yX11_isAsFelt ∈ sw_T := sw_ckw_in sw_ln5k 4 rfl
theorem ln_11_574 : Cond.methodLink (sw_nm 11) 574 yX11_curiousSet ∈ sw_T := sw_ckw_in sw_ln5k 5 rfl
theorem ln_11_577 : Cond.methodLink (sw_nm 11) 577 yX11_mostAlike ∈ sw_T := sw_ckw_in sw_ln5k 6 rfl
theorem ln_11_583 : Cond.methodLink (sw_nm 11) 583 yX11_keeps ∈ sw_T := sw_ckw_in sw_ln5k 7 rfl
theorem ln_11_587 : Cond.methodLink (sw_nm 11) 587 yX11_isRefused ∈ sw_T := sw_ckw_in sw_ln5k 8 rfl
theorem ln_11_600 : Cond.methodLink (sw_nm 11) 600 yX11_drawOf ∈ sw_T := sw_ckw_in sw_ln5k 9 rfl
theorem ln_11_603 : Cond.methodLink (sw_nm 11) 603 yX11_qCode ∈ sw_T := sw_ckw_in sw_ln5k 10 rfl
theorem ln_11_606 : Cond.methodLink (sw_nm 11) 606 yX11_qIsBracket ∈ sw_T := sw_ckw_in sw_ln5k 11 rfl
theorem ln_11_609 : Cond.methodLink (sw_nm 11) 609 yX11_qDrops ∈ sw_T := sw_ckw_in sw_ln5k 12 rfl
theorem ln_11_612 : Cond.methodLink (sw_nm 11) 612 yX11_qWordHere ∈ sw_T := sw_ckw_in sw_ln5k 13 rfl
theorem ln_11_615 : Cond.methodLink (sw_nm 11) 615 yX11_isAllowed ∈ sw_T := sw_ckw_in sw_ln5k 14 rfl
theorem ln_11_618 : Cond.methodLink (sw_nm 11) 618 yX11_qWordOf ∈ sw_T := sw_ckw_in sw_ln5k 15 rfl
theorem ln_11_621 : Cond.methodLink (sw_nm 11) 621 yX11_qOpens ∈ sw_T := sw_ckw_in sw_ln5k 16 rfl
theorem ln_11_624 : Cond.methodLink (sw_nm 11) 624 yX11_qAsksWord ∈ sw_T := sw_ckw_in sw_ln5k 17 rfl
theorem ln_11_627 : Cond.methodLink (sw_nm 11) 627 yX11_qEndsPart ∈ sw_T := sw_ckw_in sw_ln5k 18 rfl
theorem ln_11_630 : Cond.methodLink (sw_nm 11) 630 yX11_qBracket ∈ sw_T := sw_ckw_in sw_ln5k 19 rfl
theorem ln_11_633 : Cond.methodLink (sw_nm 11) 633 yX11_qDropsToBracket ∈ sw_T := sw_ckw_in sw_ln5k 20 rfl
theorem ln_11_636 : Cond.methodLink (sw_nm 11) 636 yX11_qIsOn ∈ sw_T := sw_ckw_in sw_ln5k 21 rfl
theorem ln_11_639 : Cond.methodLink (sw_nm 11) 639 yX11_qPartTold ∈ sw_T := sw_ckw_in sw_ln5k 22 rfl
theorem ln_11_642 : Cond.methodLink (sw_nm 11) 642 yX11_qGoesOn ∈ sw_T := sw_ckw_in sw_ln5k 23 rfl
theorem ln_11_645 : Cond.methodLink (sw_nm 11) 645 yX11_qFact ∈ sw_T := sw_ckw_in sw_ln5k 24 rfl
theorem ln_11_648 : Cond.methodLink (sw_nm 11) 648 yX11_qDropsNots ∈ sw_T := sw_ckw_in sw_ln5k 25 rfl
theorem ln_11_651 : Cond.methodLink (sw_nm 11) 651 yX11_qGoesOnTest ∈ sw_T := sw_ckw_in sw_ln5k 26 rfl
theorem ln_11_654 : Cond.methodLink (sw_nm 11) 654 yX11_qHasSquare ∈ sw_T := sw_ckw_in sw_ln5k 27 rfl
theorem ln_11_661 : Cond.methodLink (sw_nm 11) 661 yX11_qClip ∈ sw_T := sw_ckw_in sw_ln5k 28 rfl
theorem ln_11_665 : Cond.methodLink (sw_nm 11) 665 yX11_qFloor ∈ sw_T := sw_ckw_in sw_ln5k 29 rfl
theorem ln_11_669 : Cond.methodLink (sw_nm 11) 669 yX11_qOf ∈ sw_T := sw_ckw_in sw_ln5k 30 rfl
theorem ln_11_681 : Cond.methodLink (sw_nm 11) 681 yX11_qKind ∈ sw_T := sw_ckw_in sw_ln5k 31 rfl
theorem ln_11_684 : Cond.methodLink (sw_nm 11) 684 yX11_qTold ∈ sw_T := sw_ckw_in sw_ln5k 32 rfl
theorem ln_11_688 : Cond.methodLink (sw_nm 11) 688 yX11_qTakes ∈ sw_T := sw_ckw_in sw_ln5k 33 rfl
theorem ln_11_695 : Cond.methodLink (sw_nm 11) 695 yX11_writes ∈ sw_T := sw_ckw_in sw_ln5k 34 rfl
theorem ln_11_698 : Cond.methodLink (sw_nm 11) 698 yX11_writesTwo ∈ sw_T := sw_ckw_in sw_ln5k 35 rfl
theorem ln_11_702 : Cond.methodLink (sw_nm 11) 702 yX11_checked ∈ sw_T := sw_ckw_in sw_ln5k 36 rfl
theorem ln_11_706 : Cond.methodLink (sw_nm 11) 706 yX11_twoAt ∈ sw_T := sw_ckw_in sw_ln5k 37 rfl
theorem ln_11_709 : Cond.methodLink (sw_nm 11) 709 yX11_isSheepTold ∈ sw_T := sw_ckw_in sw_ln5k 38 rfl
theorem ln_11_712 : Cond.methodLink (sw_nm 11) 712 yX11_isImage ∈ sw_T := sw_ckw_in sw_ln5k 39 rfl

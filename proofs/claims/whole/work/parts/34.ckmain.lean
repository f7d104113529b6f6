/-! The run with its calls, and its soundness. -/
def sc_ch (N : sw_M) (na kd : Nat) (sp : Bool) (o : Nat) (L : sw_L) (st r : List Value) (cs : List sc_C) : Bool :=
  (if sp then decide (kd < 2) else decide (kd = 2)) && decide ((st.take na).length = na) && (match cs[o]? with | some (.inl q) => decide (q.1 = N.2.2.2.2) | _ => false) && decide ((r.map fun v => v.category).sum ≤ 8) && sc_okL cs.length L && r.all (sc_okv cs.length) && decide ((lg_sl (.ref o :: (st.take na).reverse)).length ≤ N.2.2.1)
def ck : Nat → Nat → sw_M → Nat → sw_L → List Value → List sc_C → Option (List sc_C)
  | 0, _, _, _, _, _, _ => none
  | n + 1, d, M, pc, L, st, cs => match decode M.2.1 pc with
    | .error _ => none
    | .ok q => match q.1 with
      | .return_ => if q.2 = 1 ∧ M.2.2.2.1 = none ∧ st = [] then some cs else none
      | .invokespecial idx => match sc_ml M.2.2.2.2 idx with
        | some w => match d, st.drop w.2.1 with
          | d' + 1, .ref o :: r => match ck n d' w.1 0 (lv_args 0 (.ref o :: (st.take w.2.1).reverse)) [] cs with
            | some cs1 => if q.2 = 3 ∧ sc_ch w.1 w.2.1 w.2.2 true o L st r cs = true then ck n (d' + 1) M (pc + 3) L r cs1 else none
            | none => none
          | _, _ => none
        | none => match st with
          | .ref _ :: r => if q.2 = 3 ∧ sc_oiL M.2.2.2.2 idx = true ∧ 1 ≤ d ∧ (r.map fun v => v.category).sum ≤ 8 then ck n d M (pc + 3) L r cs else none
          | _ => none
      | .invokevirtual idx => match sc_ml M.2.2.2.2 idx with
        | some w => match d, st.drop w.2.1 with
          | d' + 1, .ref o :: r => match ck n d' w.1 0 (lv_args 0 (.ref o :: (st.take w.2.1).reverse)) [] cs with
            | some cs1 => if q.2 = 3 ∧ sc_ch w.1 w.2.1 w.2.2 false o L st r cs = true then ck n (d' + 1) M (pc + 3) L r cs1 else none
            | none => none
          | _, _ => none
        | none => none
      | i => match sc_st M pc i q.2 L st cs with
        | some r => ck n d M r.1 r.2.1 r.2.2.1 r.2.2.2
        | none => none
def sc_So (d : Nat) (M : sw_M) (pc : Nat) (L : sw_L) (st : List Value) (cs csF : List sc_C) : Prop :=
  (cs.length ≤ csF.length ∧ sc_sz cs ≤ sc_sz csF) ∧ ∀ (E : sw_E) (mcT msT n0 cells slots : Nat), cells + (csF.length - cs.length) = mcT → slots + (sc_sz csF - sc_sz cs) = msT → sc_W E M d mcT msT n0 csF cells slots pc L st cs
theorem sc_So.call {d' : Nat} {M N : sw_M} {pc idx na kd o len : Nat} {i : Instr} {L : sw_L} {st r : List Value} {cs cs1 csF : List sc_C} {sp : Bool} (hd : decode M.2.1 pc = .ok (i, len)) (hl : len = 3) (hi : i = if sp then .invokespecial idx else .invokevirtual idx) (hm : sc_ml M.2.2.2.2 idx = some (N, na, kd)) (hr : st.drop na = .ref o :: r) (hc : sc_ch N na kd sp o L st r cs = true)
    (h1 : sc_So d' N 0 (lv_args 0 (.ref o :: (st.take na).reverse)) [] cs cs1) (h2 : sc_So (d' + 1) M (pc + 3) L r cs1 csF) : sc_So (d' + 1) M pc L st cs csF := by
  subst hl
  have hg := sc_ml_ok hm
  unfold sc_ch at hc
  simp only [Bool.and_eq_true, decide_eq_true_eq] at hc
  obtain ⟨⟨⟨⟨⟨⟨c1, c2⟩, c3⟩, c4⟩, c5⟩, c6⟩, c7⟩ := hc
  obtain ⟨⟨m1, m2⟩, hw1⟩ := h1
  obtain ⟨⟨m3, m4⟩, hw2⟩ := h2
  refine ⟨⟨Nat.le_trans m1 m3, Nat.le_trans m2 m4⟩, fun E mcT msT n0 cells slots e1 e2 => ?_⟩
  have hst : st = (st.take na).reverse.reverse ++ .ref o :: r := by rw [List.reverse_reverse, ← hr, List.take_append_drop]
  have hK : sc_K E N d' (.ref o :: (st.take na).reverse) cs cs1 := sc_K.of hg.2.2.2.2.1 hg.2.2.2.2.2.1 c7 (hw1 E _ _ _ 0 0 (by omega) (by omega))
  have ho : ∃ fs, cs[o]? = some (.inl (N.2.2.2.2, fs)) := by
    split at c3
    · next q hq => exact ⟨q.2, by rw [hq, ← of_decide_eq_true c3]⟩
    · cases c3
  rw [hst]
  refine sd_call (d' := d') hd ?_ hg (by rw [List.length_reverse]; exact c2) ho c4 (Nat.lt_succ_self _) hK m1 (by omega) (by omega) c5 c6 (hw2 E mcT msT n0 _ _ (by omega) (by omega))
  cases sp with
  | true => exact Or.inl ⟨of_decide_eq_true c1, hi⟩
  | false => exact Or.inr ⟨of_decide_eq_true c1, hi⟩
set_option maxHeartbeats 4000000 in
theorem ck_ok : ∀ (n d : Nat) (M : sw_M) (pc : Nat) (L : sw_L) (st : List Value) (cs csF : List sc_C), ck n d M pc L st cs = some csF → sc_So d M pc L st cs csF := by
  intro n
  induction n with
  | zero => intro d M pc L st cs csF h; cases h
  | succ n ih =>
    intro d M pc L st cs csF h
    unfold ck at h
    split at h
    · cases h
    · next q hd =>
      obtain ⟨i, len⟩ := q
      dsimp only at h
      split at h
      · split at h
        · next hl =>
          obtain ⟨h1, h2, h3⟩ := hl
          cases h
          subst h1; subst h3
          exact ⟨⟨Nat.le_refl _, Nat.le_refl _⟩, fun E mcT msT n0 cells slots e1 e2 => sd_return hd h2 (by omega) (by omega)⟩
        · cases h
      · next idx =>
        split at h
        · next w hm =>
          split at h
          · next d' o r hr =>
            split at h
            · next cs1 h1 =>
              split at h
              · next hl => exact sc_So.call (sp := true) hd hl.1 rfl hm hr hl.2 (ih _ _ _ _ _ _ _ h1) (ih _ _ _ _ _ _ _ h)
              · cases h
            · cases h
          · cases h
        · split at h
          · split at h
            · next hl =>
              obtain ⟨rfl, h2, h3, h4⟩ := hl
              obtain ⟨hm, hw⟩ := ih _ _ _ _ _ _ _ h
              exact ⟨hm, fun E mcT msT n0 cells slots e1 e2 => sd_objInit hd (sc_oi_in h2) sc_oiI sc_oiC h3 h4 (hw E mcT msT n0 cells slots e1 e2)⟩
            · cases h
          · cases h
      · next idx =>
        split at h
        · next w hm =>
          split at h
          · next d' o r hr =>
            split at h
            · next cs1 h1 =>
              split at h
              · next hl => exact sc_So.call (sp := false) hd hl.1 rfl hm hr hl.2 (ih _ _ _ _ _ _ _ h1) (ih _ _ _ _ _ _ _ h)
              · cases h
            · cases h
          · cases h
        · cases h
      · split at h
        · next r hr =>
          obtain ⟨⟨m1, m2⟩, hk⟩ := sc_st_ok hd hr
          obtain ⟨⟨m3, m4⟩, hw⟩ := ih _ _ _ _ _ _ _ h
          refine ⟨⟨Nat.le_trans m1 m3, Nat.le_trans m2 m4⟩, fun E mcT msT n0 cells slots e1 e2 => hk E d mcT msT n0 csF cells slots (by omega) (by omega) (hw E mcT msT n0 _ _ (by omega) (by omega))⟩
        · cases h

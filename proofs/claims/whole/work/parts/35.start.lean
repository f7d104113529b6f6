/-! Behind the constructors: the first stores. -/
def sc_sto (pm iv : Nat → Nat) (cs : List sc_C) : sw_St :=
  (fun o k => match cs[pm o]? with
    | some (.inl q) => (match q.2[k]? with | some (.int v) => v | _ => 0)
    | some (.inr q) => sc_iv q.2.2 k
    | none => 0,
   fun o k => match cs[pm o]? with
    | some (.inl q) => (match q.2[k]? with | some (.long v) => v | _ => 0)
    | _ => 0,
   fun o k => match cs[pm o]? with
    | some (.inl q) => (match q.2[k]? with | some (.ref j) => some (iv j) | _ => none)
    | some (.inr q) => (sc_rv q.2.2 k).map iv
    | none => none)
def sc_mf (pm iv : Nat → Nat) (c o k : Nat) (v : Option Value) : Bool := match sw_kd c k, v with
  | 0, some (.int _) => true
  | 1, some (.int _) => true
  | 2, some (.long _) => true
  | 3, some .null => true
  | 3, some (.ref j) => pm (iv j) == j
  | n + 4, some (.ref j) => j == pm (if n < 996 then o + n else n - 996)
  | _, _ => false
def sc_mt (G : sw_G) (pm iv : Nat → Nat) (cs : List sc_C) (o : Nat) : Bool := match sw_sh G o, cs[pm o]? with
  | .inl c, some (.inl q) => q.1 == c && q.2.length == sw_nf c && (List.range (sw_nf c)).all fun k => sc_mf pm iv c o k q.2[k]?
  | .inr t, some (.inr q) => q.1 == t.1 && q.2.1 == t.2 && (q.2.2.all fun u => match u.2 with | .ref j => pm (iv j) == j | _ => true)
  | _, _ => false
theorem sc_mf_ok {pm iv a : Nat → Nat} {cs : List sc_C} {c o k : Nat} {q : Nat × List Value} (hq : cs[pm o]? = some (.inl q)) (h : sc_mf pm iv c o k q.2[k]? = true) {v : Value} (hv : q.2[k]? = some v) : sw_cv (fun i => a (pm i)) (sw_fv (sc_sto pm iv cs) c o k) = sw_cv a v := by
  unfold sc_mf at h
  unfold sw_fv sc_sto
  rw [hv] at h
  split at h
  · next hk hv' => cases hv'; simp only [hk, hq, hv]; rfl
  · next hk hv' => cases hv'; simp only [hk, hq, hv]; rfl
  · next hk hv' => cases hv'; simp only [hk, hq, hv]; rfl
  · next hk hv' => cases hv'; simp only [hk, hq, hv]; rfl
  · next j hk hv' => cases hv'; simp only [hk, hq, hv]; show Value.ref (a (pm (iv j))) = _; rw [eq_of_beq h]; rfl
  · next n j hk hv' => cases hv'; simp only [hk]; show Value.ref (a (pm _)) = _; rw [← eq_of_beq h]; rfl
  · cases h
theorem sc_mt_ok {l : Launch} {D : va_G} {cA : Nat → ClassId} {G : sw_G} {pm iv a : Nat → Nat} {cs : List sc_C} {o : Nat} (h : sc_mt G pm iv cs o = true) : ∃ x, cs[pm o]? = some x ∧ sc_cell a cA x = sw_cell (l, D, fun i => a (pm i), cA) G (sc_sto pm iv cs) o := by
  unfold sc_mt at h
  unfold sw_cell
  split at h
  · next c q hs hq =>
    rw [Bool.and_eq_true, Bool.and_eq_true] at h
    obtain ⟨⟨h1, h2⟩, h3⟩ := h
    refine ⟨_, hq, ?_⟩
    simp only [hs]
    show Sum.inr (q.1, q.2.map (sw_cv a)) = _
    rw [eq_of_beq h1]
    congr 2
    apply List.ext_getElem?
    intro k
    by_cases hk : k < sw_nf c
    · have hk' : k < q.2.length := by rw [eq_of_beq h2]; exact hk
      have hv : q.2[k]? = some q.2[k] := List.getElem?_eq_getElem hk'
      rw [List.getElem?_map, hv]
      simp only [List.getElem?_map, List.getElem?_range hk, Option.map_some]
      rw [sc_mf_ok (a := a) hq (List.all_eq_true.mp h3 k (List.mem_range.mpr hk)) hv]
    · rw [List.getElem?_eq_none (by rw [List.length_map, eq_of_beq h2]; omega), List.getElem?_eq_none (by simp; omega)]
  · next t q hs hq =>
    rw [Bool.and_eq_true, Bool.and_eq_true] at h
    obtain ⟨⟨h1, h2⟩, h3⟩ := h
    refine ⟨_, hq, ?_⟩
    simp only [hs]
    show (Sum.inl (cA q.1, q.2.1, if q.1 = 3 then .inr (.inl fun _ => 0) else if q.1 = 4 then .inr (.inr (.inr (.inr fun k => (sc_rv q.2.2 k).map a))) else .inl (sc_iv q.2.2)) : va_E) = _
    rw [eq_of_beq h1, eq_of_beq h2]
    have e1 : (sc_sto pm iv cs).1 o = sc_iv q.2.2 := by funext k; unfold sc_sto; simp only [hq]
    have e2 : (sc_sto pm iv cs).2.1 o = fun _ => 0 := by funext k; unfold sc_sto; simp only [hq]
    have e3 : (fun k => ((sc_sto pm iv cs).2.2 o k).map fun i => a (pm i)) = fun k => (sc_rv q.2.2 k).map a := by
      funext k
      unfold sc_sto
      simp only [hq, Option.map_map]
      unfold sc_rv
      split
      · next j hj =>
        have h9 := List.all_eq_true.mp h3 _ (sc_at_in hj)
        show some (a (pm (iv j))) = some (a j)
        rw [eq_of_beq h9]
      · rfl
    simp only [e1, e2, e3]
  · cases h
theorem sc_start {l : Launch} {D : va_G} {cA : Nat → ClassId} {G : sw_G} {pm iv a : Nat → Nat} {cs : List sc_C} (h : ((List.range G.1).all (sc_mt G pm iv cs)) = true) : ((List.range G.1).map pm).map (fun i => (sc_w a cA cs)[i]?) = (sw_w (l, D, fun i => a (pm i), cA) G (sc_sto pm iv cs)).map some := by
  unfold sw_w
  rw [List.map_map, List.map_map]
  apply List.map_congr_left
  intro o ho
  obtain ⟨x, h1, h2⟩ := sc_mt_ok (l := l) (D := D) (cA := cA) (a := a) (List.all_eq_true.mp h o ho)
  show (sc_w a cA cs)[pm o]? = some (a (pm o), _)
  rw [sc_w_at h1, h2]
def sc_pX (i : Nat) : Nat := if i < 19 then i else if i < 32 then i + 2 else if i = 32 then 19 else if i = 33 then 20 else i
def sc_iX (i : Nat) : Nat := if i < 19 then i else if i = 19 then 32 else if i = 20 then 33 else if i < 34 then i - 2 else i
def sc_ceq (x y : sc_C) : Bool := match x, y with
  | .inl a, .inl b => decide (a.1 = b.1) && decide (a.2 = b.2)
  | .inr a, .inr b => decide (a.1 = b.1) && decide (a.2.1 = b.2.1) && decide (a.2.2 = b.2.2)
  | _, _ => false
theorem sc_ceq_sp {x y : sc_C} (h : sc_ceq x y = true) : x = y := by
  unfold sc_ceq at h
  split at h
  · simp only [Bool.and_eq_true, decide_eq_true_eq] at h
    exact congrArg Sum.inl (Prod.ext h.1 h.2)
  · simp only [Bool.and_eq_true, decide_eq_true_eq] at h
    exact congrArg Sum.inr (Prod.ext h.1.1 (Prod.ext h.1.2 h.2))
  · cases h
def sc_heq : List sc_C → List sc_C → Bool
  | [], [] => true
  | x :: r, y :: s => sc_ceq x y && sc_heq r s
  | _, _ => false
theorem sc_heq_sp : ∀ {a b : List sc_C}, sc_heq a b = true → a = b
  | [], [], _ => rfl
  | x :: r, y :: s, h => by
    unfold sc_heq at h
    rw [Bool.and_eq_true] at h
    rw [sc_ceq_sp h.1, sc_heq_sp h.2]
  | [], _ :: _, h => by cases h
  | _ :: _, [], h => by cases h
def sc_is (x : Option (List sc_C)) (y : List sc_C) : Bool := match x with
  | some a => sc_heq a y
  | none => false
theorem sc_is_sp {x : Option (List sc_C)} {y : List sc_C} (h : sc_is x y = true) : x = some y := by
  unfold sc_is at h
  split at h
  · rw [sc_heq_sp h]
  · cases h
def sc_isR (x : Option (Nat × sw_L × List Value × List sc_C)) (pc : Nat) (L : sw_L) (st : List Value) (y : List sc_C) : Bool := match x with
  | some a => decide (a.1 = pc) && decide (a.2.1 = L) && decide (a.2.2.1 = st) && sc_heq a.2.2.2 y
  | none => false
theorem sc_isR_sp {x : Option (Nat × sw_L × List Value × List sc_C)} {pc : Nat} {L : sw_L} {st : List Value} {y : List sc_C} (h : sc_isR x pc L st y = true) : x = some (pc, L, st, y) := by
  unfold sc_isR at h
  split at h
  · simp only [Bool.and_eq_true, decide_eq_true_eq] at h
    rw [← h.1.1.1, ← h.1.1.2, ← h.1.2, ← sc_heq_sp h.2]
  · cases h
def sc_steps : Nat → sw_M → (Nat × sw_L × List Value × List sc_C) → Option (Nat × sw_L × List Value × List sc_C)
  | 0, _, r => some r
  | n + 1, M, r => match decode M.2.1 r.1 with
    | .error _ => none
    | .ok q => match sc_st M r.1 q.1 q.2 r.2.1 r.2.2.1 r.2.2.2 with
      | some r' => sc_steps n M r'
      | none => none
theorem sc_steps_ok {d : Nat} {M : sw_M} {csF : List sc_C} : ∀ (n : Nat) (r r' : Nat × sw_L × List Value × List sc_C), sc_steps n M r = some r' → sc_So d M r'.1 r'.2.1 r'.2.2.1 r'.2.2.2 csF → sc_So d M r.1 r.2.1 r.2.2.1 r.2.2.2 csF := by
  intro n
  induction n with
  | zero => intro r r' h k; cases h; exact k
  | succ n ih =>
    intro r r' h k
    unfold sc_steps at h
    split at h
    · cases h
    · next q hd =>
      split at h
      · next r1 hr =>
        obtain ⟨⟨m1, m2⟩, hk⟩ := sc_st_ok hd hr
        obtain ⟨⟨m3, m4⟩, hw⟩ := ih _ _ h k
        exact ⟨⟨Nat.le_trans m1 m3, Nat.le_trans m2 m4⟩, fun E mcT msT n0 cells slots e1 e2 => hk E d mcT msT n0 csF cells slots (by omega) (by omega) (hw E mcT msT n0 _ _ (by omega) (by omega))⟩
      · cases h

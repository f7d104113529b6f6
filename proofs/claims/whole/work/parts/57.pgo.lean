/-! One sheep: what lures it, where it goes. -/
def g_of : Nat → Int → Int := fun _ _ => 0
def g_val (env : Nat → Int) (P : List Nat) : Int := (pe_run env g_of P []).headD 0
def g_bey (l : Nat → Nat → Nat) (k f : Nat) : Option Nat := if l 2 (3 * k) = f then some (l 2 (3 * k + 1)) else if l 2 (3 * k + 1) = f then some (l 2 (3 * k)) else none
def g_lure (l : Nat → Nat → Nat) (P : Nat → List Nat) (day cur : Nat) (row : Nat → Nat) (s k b : Nat) : Int := g_val (g_env l day cur row s b (l 2 (3 * k + 2))) (P 0)
def g_stays (l : Nat → Nat → Nat) (P : Nat → List Nat) (day cur : Nat) (row : Nat → Nat) (s : Nat) : Bool := decide (g_val (g_env l day cur row s (row 0) 0) (P 1) ≠ 0)
def g_cut (v : Int) : Nat := if v < 0 then 0 else if 9999 < v then 9999 else v.toNat
def g_worth (l : Nat → Nat → Nat) (P : Nat → List Nat) (day cur : Nat) (row : Nat → Nat) (s : Nat) : Nat := g_cut (g_val (g_env l day cur row s 0 0) (P 2))
/-- how much a gap lures, 0 if it does not lead on or is shut -/
def g_pull (l : Nat → Nat → Nat) (P : Nat → List Nat) (op : Nat → Bool) (day cur : Nat) (row : Nat → Nat) (s k : Nat) : Int := match g_bey l k (row 0) with
  | none => 0
  | some b => if op k = true then g_lure l P day cur row s k b else 0
/-- the first of the greatest above 0 -/
def g_best (v : Nat → Int) : Nat → Option Nat × Int
  | 0 => (none, 0)
  | n + 1 => if (g_best v n).2 < v n then (some n, v n) else g_best v n
def g_choice (l : Nat → Nat → Nat) (P : Nat → List Nat) (op : Nat → Bool) (day cur : Nat) (row : Nat → Nat) (s : Nat) : Option Nat :=
  if g_stays l P day cur row s = true then none else (g_best (g_pull l P op day cur row s) (l 0 1)).1
def g_pass (l : Nat → Nat → Nat) (row : Nat → Nat) (k : Nat) : Nat → Nat := match g_bey l k (row 0) with
  | none => row
  | some b => fun j => if j = 0 then b else if j = 1 then min 999 (row 1 + l 2 (3 * k + 2)) else if j = 2 then (3 * row 2 + k + 1) % 64 else if j = 4 + b then min 99 (row (4 + b) + 1) else row j
def g_step (l : Nat → Nat → Nat) (P : Nat → List Nat) (op : Nat → Bool) (day cur : Nat) (row : Nat → Nat) (s : Nat) : Nat → Nat := match g_choice l P op day cur row s with
  | none => row
  | some k => g_pass l row k
/-- an upland that can be -/
def g_ld (l : Nat → Nat → Nat) (P : Nat → List Nat) : Prop :=
  l 0 0 ≤ 8 ∧ l 0 1 ≤ 10 ∧ l 0 2 ≤ 6 ∧ l 0 3 ≤ 100 ∧ (∀ f, f < l 0 0 → l 1 f ≤ 9) ∧ (∀ k, k < l 0 1 → l 2 (3 * k) < l 0 0 ∧ l 2 (3 * k + 1) < l 0 0 ∧ l 2 (3 * k) ≠ l 2 (3 * k + 1) ∧ l 2 (3 * k + 2) ≤ 9 ∧ 1 ≤ l 2 (3 * k + 2)) ∧ (∀ s, s < l 0 2 → l 3 (2 * s) < l 0 0 ∧ l 3 (2 * s + 1) ≤ 9) ∧ pe_wt 0 (P 0) [] = some [0] ∧ (pe_wt 1 (P 1) [] = some [1] ∨ P 1 = [1000]) ∧ pe_wt 2 (P 2) [] = some [0]
def oI : Option Nat → Int32
  | none => -1
  | some n => nI n
theorem g_bey_lt {l : Nat → Nat → Nat} {P : Nat → List Nat} {k f b : Nat} (h : g_ld l P) (hk : k < l 0 1) (hb : g_bey l k f = some b) : b < l 0 0 ∧ b < 8 := by
  have h1 := h.2.2.2.2.2.1 k hk
  have h2 := h.1
  unfold g_bey at hb
  split at hb
  · cases hb
    exact ⟨h1.2.1, by omega⟩
  · split at hb
    · cases hb
      exact ⟨h1.1, by omega⟩
    · cases hb
theorem g_best_sp (v : Nat → Int) : ∀ n, (g_best v n).2 = (match (g_best v n).1 with | none => 0 | some k => v k) ∧ 0 ≤ (g_best v n).2 ∧ (∀ k, (g_best v n).1 = some k → k < n ∧ 0 < v k) ∧ (∀ k, k < n → v k ≤ (g_best v n).2)
  | 0 => ⟨rfl, Int.le_refl _, fun _ h => (by cases h), fun _ h => by omega⟩
  | n + 1 => by
    obtain ⟨h1, h2, h3, h4⟩ := g_best_sp v n
    unfold g_best
    split
    · next h =>
      refine ⟨rfl, by omega, fun k hk => by cases hk; exact ⟨by omega, by omega⟩, fun k hk => ?_⟩
      show v k ≤ v n
      by_cases e : k = n
      · rw [e]; exact Int.le_refl _
      · have := h4 k (by omega)
        omega
    · next h =>
      refine ⟨h1, h2, fun k hk => ⟨by have := (h3 k hk).1; omega, (h3 k hk).2⟩, fun k hk => ?_⟩
      by_cases e : k = n
      · rw [e]; omega
      · exact h4 k (by omega)
theorem g_best_cong {v v' : Nat → Int} : ∀ {n : Nat}, (∀ k, k < n → v k = v' k) → g_best v n = g_best v' n
  | 0, _ => rfl
  | n + 1, h => by
    unfold g_best
    rw [g_best_cong (n := n) (fun k hk => h k (by omega)), h n (by omega)]
theorem g_choice_lt {l : Nat → Nat → Nat} {P : Nat → List Nat} {op : Nat → Bool} {day cur s k : Nat} {row : Nat → Nat} (h : g_choice l P op day cur row s = some k) : k < l 0 1 ∧ op k = true ∧ ∃ b, g_bey l k (row 0) = some b := by
  unfold g_choice at h
  split at h
  · cases h
  · obtain ⟨h1, h2⟩ := (g_best_sp (g_pull l P op day cur row s) (l 0 1)).2.2.1 k h
    refine ⟨h1, ?_⟩
    unfold g_pull at h2
    split at h2
    · omega
    · next b hb =>
      split at h2
      · next ho => exact ⟨ho, b, hb⟩
      · omega
theorem g_pass_rk {l : Nat → Nat → Nat} {P : Nat → List Nat} {cur k : Nat} {row : Nat → Nat} (h : g_ld l P) (hk : k < l 0 1) (hr : g_rk cur row) : g_rk cur (g_pass l row k) := by
  unfold g_pass
  split
  · exact hr
  · next b hb =>
    have hb2 := g_bey_lt h hk hb
    obtain ⟨r1, r2, r3, r4, r5, r6⟩ := hr
    refine ⟨r1, hb2.2, ?_, ?_, ?_, fun f hf => ?_⟩
    · show min 999 _ ≤ 999
      omega
    · show _ % 64 < 64
      omega
    · show (if (3 : Nat) = 0 then _ else _) ≤ 1
      rw [if_neg (by omega), if_neg (by omega), if_neg (by omega), if_neg (by omega)]
      exact r5
    · show (if 4 + f = 0 then _ else _) ≤ 99
      rw [if_neg (by omega), if_neg (by omega), if_neg (by omega)]
      split
      · omega
      · exact r6 f hf
theorem g_step_rk {l : Nat → Nat → Nat} {P : Nat → List Nat} {op : Nat → Bool} {day cur s : Nat} {row : Nat → Nat} (h : g_ld l P) (hr : g_rk cur row) : g_rk cur (g_step l P op day cur row s) := by
  unfold g_step
  split
  · exact hr
  · next k hk => exact g_pass_rk h (g_choice_lt hk).1 hr
/-- parts are small -/
theorem g_envok {l : Nat → Nat → Nat} {P : Nat → List Nat} {day cur s fld mi kind : Nat} {row : Nat → Nat} (h : g_ld l P) (hr : g_rk cur row) (hd : day ≤ 100000) (hs : s < 6) (hf : kind ≤ 1 → fld < l 0 0) (hm : mi ≤ 9) (hk : kind < 3) : pe_env kind (g_env l day cur row s fld mi) g_of := by
  refine ⟨fun v hv => ?_, fun z => by omega⟩
  obtain ⟨r1, r2, r3, r4, r5, r6⟩ := hr
  have h10 := pe_al_lt hv
  have h8 := h.1
  have c34 : v = 3 ∨ v = 4 → kind ≤ 1 := fun z => by
    unfold pe_al at hv
    split at hv
    · omega
    · split at hv
      · omega
      · split at hv
        · simp at hv; omega
        · simp at hv; omega
  have key : g_en l day cur row s fld mi v ≤ 100000 := by
    unfold g_en
    have k1 : v = 0 ∨ v = 1 ∨ v = 2 ∨ v = 3 ∨ v = 4 ∨ v = 5 ∨ v = 6 ∨ v = 7 ∨ v = 8 ∨ v = 9 := by omega
    rcases k1 with rfl | rfl | rfl | rfl | rfl | rfl | rfl | rfl | rfl | rfl
    · rw [if_pos rfl]; omega
    · rw [if_neg (by decide), if_pos rfl]; omega
    · rw [if_neg (by decide), if_neg (by decide), if_pos rfl]; omega
    · rw [if_neg (by decide), if_neg (by decide), if_neg (by decide), if_pos rfl]
      have := h.2.2.2.2.1 fld (hf (c34 (Or.inl rfl))); omega
    · rw [if_neg (by decide), if_neg (by decide), if_neg (by decide), if_neg (by decide), if_pos rfl]
      have := r6 fld (by have := hf (c34 (Or.inr rfl)); omega); omega
    · rw [if_neg (by decide), if_neg (by decide), if_neg (by decide), if_neg (by decide), if_neg (by decide), if_pos rfl]; omega
    · rw [if_neg (by decide), if_neg (by decide), if_neg (by decide), if_neg (by decide), if_neg (by decide), if_neg (by decide), if_pos rfl]; omega
    · rw [if_neg (by decide), if_neg (by decide), if_neg (by decide), if_neg (by decide), if_neg (by decide), if_neg (by decide), if_neg (by decide), if_pos rfl]; omega
    · rw [if_neg (by decide), if_neg (by decide), if_neg (by decide), if_neg (by decide), if_neg (by decide), if_neg (by decide), if_neg (by decide), if_neg (by decide), if_pos rfl]; omega
    · rw [if_neg (by decide), if_neg (by decide), if_neg (by decide), if_neg (by decide), if_neg (by decide), if_neg (by decide), if_neg (by decide), if_neg (by decide), if_neg (by decide)]; omega
  unfold g_env
  omega

/-! The least way: rounds and rounds. -/
def g_rx (c : Nat → Nat) (a b w : Nat) : Nat → Nat := fun v => if v = b then min (c b) (c a + w) else c v
theorem g_rx_le (c : Nat → Nat) (a b w v : Nat) : g_rx c a b w v ≤ c v := by
  unfold g_rx
  by_cases h : v = b
  · rw [if_pos h, h]; omega
  · rw [if_neg h]; omega
def g_yk (l : Nat → Nat → Nat) (op : Nat → Bool) (k : Nat) (c : Nat → Nat) : Nat → Nat := if op k = true then g_rx (g_rx c (l 2 (3 * k)) (l 2 (3 * k + 1)) (l 2 (3 * k + 2))) (l 2 (3 * k + 1)) (l 2 (3 * k)) (l 2 (3 * k + 2)) else c
def g_yr (l : Nat → Nat → Nat) (op : Nat → Bool) : Nat → Nat → (Nat → Nat) → (Nat → Nat)
  | 0, _, c => c
  | n + 1, k, c => g_yr l op n (k + 1) (g_yk l op k c)
def g_yi (l : Nat → Nat → Nat) (op : Nat → Bool) (c : Nat → Nat) : Nat → (Nat → Nat)
  | 0 => c
  | i + 1 => g_yr l op (l 0 1) 0 (g_yi l op c i)
theorem g_yk_le (l : Nat → Nat → Nat) (op : Nat → Bool) (k : Nat) (c : Nat → Nat) (v : Nat) : g_yk l op k c v ≤ c v := by
  unfold g_yk
  by_cases h : op k = true
  · rw [if_pos h]
    exact Nat.le_trans (g_rx_le _ _ _ _ _) (g_rx_le _ _ _ _ _)
  · rw [if_neg h]
    exact Nat.le_refl _
theorem g_yr_le (l : Nat → Nat → Nat) (op : Nat → Bool) : ∀ (n k : Nat) (c : Nat → Nat) (v : Nat), g_yr l op n k c v ≤ c v
  | 0, _, _, _ => Nat.le_refl _
  | n + 1, k, c, v => Nat.le_trans (g_yr_le l op n (k + 1) _ v) (g_yk_le l op k c v)
theorem g_yr_edge (l : Nat → Nat → Nat) (op : Nat → Bool) : ∀ (n k : Nat) (c : Nat → Nat) (j : Nat), k ≤ j → j < k + n → op j = true → g_yr l op n k c (l 2 (3 * j + 1)) ≤ c (l 2 (3 * j)) + l 2 (3 * j + 2) ∧ g_yr l op n k c (l 2 (3 * j)) ≤ c (l 2 (3 * j + 1)) + l 2 (3 * j + 2)
  | 0, k, c, j, h1, h2, ho => by omega
  | n + 1, k, c, j, h1, h2, ho => by
    by_cases e : j = k
    · subst e
      have a1 := g_yr_le l op n (j + 1) (g_yk l op j c) (l 2 (3 * j + 1))
      have a2 := g_yr_le l op n (j + 1) (g_yk l op j c) (l 2 (3 * j))
      have b1 : g_yk l op j c (l 2 (3 * j + 1)) ≤ c (l 2 (3 * j)) + l 2 (3 * j + 2) := by
        unfold g_yk
        rw [if_pos ho]
        refine Nat.le_trans (g_rx_le _ _ _ _ _) ?_
        unfold g_rx
        rw [if_pos rfl]
        omega
      have b2 : g_yk l op j c (l 2 (3 * j)) ≤ c (l 2 (3 * j + 1)) + l 2 (3 * j + 2) := by
        unfold g_yk
        rw [if_pos ho]
        have := g_rx_le c (l 2 (3 * j)) (l 2 (3 * j + 1)) (l 2 (3 * j + 2)) (l 2 (3 * j + 1))
        generalize g_rx c (l 2 (3 * j)) (l 2 (3 * j + 1)) (l 2 (3 * j + 2)) = c1 at this ⊢
        unfold g_rx
        rw [if_pos rfl]
        omega
      exact ⟨Nat.le_trans a1 b1, Nat.le_trans a2 b2⟩
    · obtain ⟨i1, i2⟩ := g_yr_edge l op n (k + 1) (g_yk l op k c) j (by omega) (by omega) ho
      have b1 := g_yk_le l op k c (l 2 (3 * j))
      have b2 := g_yk_le l op k c (l 2 (3 * j + 1))
      exact ⟨by show g_yr l op n (k + 1) (g_yk l op k c) _ ≤ _; omega, by show g_yr l op n (k + 1) (g_yk l op k c) _ ≤ _; omega⟩
/-- nothing is below what is least, and all comes by a gap -/
def g_yq (l : Nat → Nat → Nat) (op : Nat → Bool) (c0 ds c : Nat → Nat) : Prop := (∀ v, ds v ≤ c v) ∧ ∀ v, c v = c0 v ∨ ∃ j, j < l 0 1 ∧ op j = true ∧ (v = l 2 (3 * j + 1) ∧ ds (l 2 (3 * j)) + l 2 (3 * j + 2) ≤ c v ∨ v = l 2 (3 * j) ∧ ds (l 2 (3 * j + 1)) + l 2 (3 * j + 2) ≤ c v)
def g_ye1 (l : Nat → Nat → Nat) (op : Nat → Bool) (ds : Nat → Nat) : Prop := ∀ j, j < l 0 1 → op j = true → ds (l 2 (3 * j + 1)) ≤ ds (l 2 (3 * j)) + l 2 (3 * j + 2) ∧ ds (l 2 (3 * j)) ≤ ds (l 2 (3 * j + 1)) + l 2 (3 * j + 2)
theorem g_yq_k {l : Nat → Nat → Nat} {op : Nat → Bool} {c0 ds c : Nat → Nat} {k : Nat} (hE : g_ye1 l op ds) (hk : k < l 0 1) (h : g_yq l op c0 ds c) : g_yq l op c0 ds (g_yk l op k c) := by
  unfold g_yk
  by_cases ho : op k = true
  · rw [if_pos ho]
    obtain ⟨e1, e2⟩ := hE k hk ho
    have s1 : g_yq l op c0 ds (g_rx c (l 2 (3 * k)) (l 2 (3 * k + 1)) (l 2 (3 * k + 2))) := by
      refine ⟨fun v => ?_, fun v => ?_⟩
      · unfold g_rx
        have := h.1 v
        have := h.1 (l 2 (3 * k))
        by_cases z : v = l 2 (3 * k + 1)
        · rw [if_pos z, ← z]
          rw [← z] at e1
          omega
        · rw [if_neg z]
          exact h.1 v
      · unfold g_rx
        have a2 := h.1 (l 2 (3 * k))
        by_cases z : v = l 2 (3 * k + 1)
        · rw [if_pos z]
          by_cases y : c (l 2 (3 * k + 1)) ≤ c (l 2 (3 * k)) + l 2 (3 * k + 2)
          · rw [show min (c (l 2 (3 * k + 1))) (c (l 2 (3 * k)) + l 2 (3 * k + 2)) = c (l 2 (3 * k + 1)) by omega, ← z]
            exact h.2 v
          · exact Or.inr ⟨k, hk, ho, Or.inl ⟨z, by omega⟩⟩
        · rw [if_neg z]
          exact h.2 v
    generalize g_rx c (l 2 (3 * k)) (l 2 (3 * k + 1)) (l 2 (3 * k + 2)) = c1 at s1 ⊢
    refine ⟨fun v => ?_, fun v => ?_⟩
    · unfold g_rx
      have := s1.1 v
      have := s1.1 (l 2 (3 * k + 1))
      by_cases z : v = l 2 (3 * k)
      · rw [if_pos z, ← z]
        rw [← z] at e2
        omega
      · rw [if_neg z]
        exact s1.1 v
    · unfold g_rx
      have a2 := s1.1 (l 2 (3 * k + 1))
      by_cases z : v = l 2 (3 * k)
      · rw [if_pos z]
        by_cases y : c1 (l 2 (3 * k)) ≤ c1 (l 2 (3 * k + 1)) + l 2 (3 * k + 2)
        · rw [show min (c1 (l 2 (3 * k))) (c1 (l 2 (3 * k + 1)) + l 2 (3 * k + 2)) = c1 (l 2 (3 * k)) by omega, ← z]
          exact s1.2 v
        · exact Or.inr ⟨k, hk, ho, Or.inr ⟨z, by omega⟩⟩
      · rw [if_neg z]
        exact s1.2 v
  · rw [if_neg ho]
    exact h
theorem g_yq_r {l : Nat → Nat → Nat} {op : Nat → Bool} {c0 ds : Nat → Nat} (hE : g_ye1 l op ds) : ∀ (n k : Nat) (c : Nat → Nat), k + n ≤ l 0 1 → g_yq l op c0 ds c → g_yq l op c0 ds (g_yr l op n k c)
  | 0, _, _, _, h => h
  | n + 1, k, c, hk, h => g_yq_r hE n (k + 1) _ (by omega) (g_yq_k hE (by omega) h)
theorem g_stab (f : Nat → Nat) (h : ∀ i, f (i + 1) ≤ f i) : ∀ k i, f i ≤ k → ∃ M, f (M + 1) = f M
  | 0, i, hi => ⟨i, by have := h i; omega⟩
  | k + 1, i, hi => by
    by_cases e : f (i + 1) = f i
    · exact ⟨i, e⟩
    · exact g_stab f h k (i + 1) (by have := h i; omega)
theorem g_least {Q : Nat → Prop} {f : Nat → Nat} : ∀ k u, f u ≤ k → Q u → ∃ u, Q u ∧ ∀ v, Q v → f u ≤ f v
  | 0, u, hk, hu => ⟨u, hu, fun v _ => by omega⟩
  | k + 1, u, hk, hu => by
    by_cases e : ∃ v, Q v ∧ f v ≤ k
    · obtain ⟨v, h1, h2⟩ := e
      exact g_least k v h2 h1
    · refine ⟨u, hu, fun v hv => ?_⟩
      by_cases z : f v ≤ k
      · exact absurd ⟨v, hv, z⟩ e
      · omega
def g_s8 (c : Nat → Nat) : Nat := c 0 + c 1 + c 2 + c 3 + c 4 + c 5 + c 6 + c 7
theorem g_s8_eq {c c' : Nat → Nat} (h : ∀ v, c' v ≤ c v) (e : g_s8 c' = g_s8 c) : ∀ v, v < 8 → c' v = c v := fun v hv => by
  have a0 := h 0
  have a1 := h 1
  have a2 := h 2
  have a3 := h 3
  have a4 := h 4
  have a5 := h 5
  have a6 := h 6
  have a7 := h 7
  unfold g_s8 at e
  have : v = 0 ∨ v = 1 ∨ v = 2 ∨ v = 3 ∨ v = 4 ∨ v = 5 ∨ v = 6 ∨ v = 7 := by omega
  rcases this with rfl | rfl | rfl | rfl | rfl | rfl | rfl | rfl <;> omega
theorem g_s8_le {c c' : Nat → Nat} (h : ∀ v, c' v ≤ c v) : g_s8 c' ≤ g_s8 c := by
  have a0 := h 0
  have a1 := h 1
  have a2 := h 2
  have a3 := h 3
  have a4 := h 4
  have a5 := h 5
  have a6 := h 6
  have a7 := h 7
  unfold g_s8
  omega
theorem g_yr_out {l : Nat → Nat → Nat} {P : Nat → List Nat} {op : Nat → Bool} (hg : g_ld l P) {v : Nat} (hv : l 0 0 ≤ v) : ∀ (n k : Nat) (c : Nat → Nat), k + n ≤ l 0 1 → g_yr l op n k c v = c v
  | 0, _, _, _ => rfl
  | n + 1, k, c, hk => by
    show g_yr l op n (k + 1) (g_yk l op k c) v = c v
    rw [g_yr_out hg hv n (k + 1) _ (by omega)]
    have g2 := hg.2.2.2.2.2.1 k (by omega)
    unfold g_yk
    by_cases ho : op k = true
    · rw [if_pos ho]
      unfold g_rx
      rw [if_neg (by omega), if_neg (by omega)]
    · rw [if_neg ho]
theorem g_yi_out {l : Nat → Nat → Nat} {P : Nat → List Nat} {op : Nat → Bool} (hg : g_ld l P) {v : Nat} (hv : l 0 0 ≤ v) (c : Nat → Nat) : ∀ i, g_yi l op c i v = c v
  | 0 => rfl
  | i + 1 => by
    show g_yr l op (l 0 1) 0 (g_yi l op c i) v = c v
    rw [g_yr_out hg hv _ _ _ (by omega), g_yi_out hg hv c i]
theorem g_yi_mono (l : Nat → Nat → Nat) (op : Nat → Bool) (c : Nat → Nat) (i : Nat) : ∀ d v, g_yi l op c (i + d) v ≤ g_yi l op c i v
  | 0, _ => Nat.le_refl _
  | d + 1, v => Nat.le_trans (g_yr_le l op _ _ _ v) (g_yi_mono l op c i d v)
theorem g_yi_fix {l : Nat → Nat → Nat} {op : Nat → Bool} {c : Nat → Nat} {i : Nat} (h : g_yi l op c (i + 1) = g_yi l op c i) : ∀ d, g_yi l op c (i + d) = g_yi l op c i
  | 0 => rfl
  | d + 1 => by
    show g_yr l op (l 0 1) 0 (g_yi l op c (i + d)) = _
    rw [g_yi_fix h d]
    exact h
/-- as many rounds as there are fields but one are enough -/
theorem g_yay {l : Nat → Nat → Nat} {P : Nat → List Nat} {op : Nat → Bool} {c : Nat → Nat} {f : Nat} (hg : g_ld l P) (hf : f < l 0 0) (hc : c f = 0) : g_yi l op c (l 0 0 - 1 + 1) = g_yi l op c (l 0 0 - 1) := by
  have h8 := hg.1
  obtain ⟨M, hM⟩ := g_stab (fun i => g_s8 (g_yi l op c i)) (fun i => g_s8_le (fun v => g_yi_mono l op c i 1 v)) _ 0 (Nat.le_refl _)
  have hfix : g_yi l op c (M + 1) = g_yi l op c M := by
    funext v
    by_cases z : v < 8
    · exact g_s8_eq (fun v => g_yi_mono l op c M 1 v) hM v z
    · rw [g_yi_out hg (by omega) c, g_yi_out hg (by omega) c]
  have hlow : ∀ i v, g_yi l op c M v ≤ g_yi l op c i v := fun i v => by
    by_cases z : i ≤ M
    · have := g_yi_mono l op c i (M - i) v
      rwa [show i + (M - i) = M by omega] at this
    · have := g_yi_fix hfix (i - M)
      rw [show M + (i - M) = i by omega] at this
      rw [this]
      exact Nat.le_refl _
  have hE : g_ye1 l op (g_yi l op c M) := fun j hj ho => by
    have := g_yr_edge l op (l 0 1) 0 (g_yi l op c M) j (by omega) (by omega) ho
    rw [show g_yr l op (l 0 1) 0 (g_yi l op c M) = g_yi l op c M from hfix] at this
    exact this
  have hQ : ∀ i, g_yq l op c (g_yi l op c M) (g_yi l op c i) := fun i => by
    induction i with
    | zero => exact ⟨fun v => hlow 0 v, fun v => Or.inl rfl⟩
    | succ i ih => exact g_yq_r hE (l 0 1) 0 _ (by omega) ih
  have hQM := hQ M
  generalize hds : g_yi l op c M = ds at hlow hE hQM
  have key : ∀ i, (∀ v, v < l 0 0 → g_yi l op c i v = ds v) ∨ i + 1 ≤ fb_ct (fun v => decide (g_yi l op c i v = ds v)) (l 0 0) := fun i => by
    induction i with
    | zero =>
      refine Or.inr (fb_ct_pos.mpr ⟨f, hf, ?_⟩)
      have := hlow 0 f
      exact decide_eq_true (by show c f = ds f; have h2 : ds f ≤ c f := this; omega)
    | succ i ih =>
      by_cases al : ∀ v, v < l 0 0 → g_yi l op c i v = ds v
      · refine Or.inl (fun v hv => ?_)
        have h1 := hlow (i + 1) v
        have h2 := g_yi_mono l op c i 1 v
        have h3 := al v hv
        omega
      · rcases ih with ih | ih
        · exact absurd ih al
        · have ex : ∃ u, u < l 0 0 ∧ ¬ g_yi l op c i u = ds u := by
            refine Classical.byContradiction fun z => al (fun v hv => Classical.byContradiction fun y => z ⟨v, hv, y⟩)
          obtain ⟨u0, hu0⟩ := ex
          obtain ⟨u, ⟨hu1, hu2⟩, hmin⟩ := g_least (Q := fun u => u < l 0 0 ∧ ¬ g_yi l op c i u = ds u) (f := ds) _ u0 (Nat.le_refl _) hu0
          have huw : g_yi l op c (i + 1) u = ds u := by
            have l1 := hlow i u
            have l2 := hlow (i + 1) u
            have l3 := g_yi_mono l op c 0 i u
            rw [Nat.zero_add] at l3
            rcases hQM.2 u with q | ⟨j, hj, ho, q⟩
            · exact absurd (show g_yi l op c i u = ds u by have : g_yi l op c 0 u = c u := rfl; omega) hu2
            · have g2 := hg.2.2.2.2.2.1 j hj
              obtain ⟨w1, w2⟩ := g_yr_edge l op (l 0 1) 0 (g_yi l op c i) j (by omega) (by omega) ho
              rcases q with ⟨q1, q2⟩ | ⟨q1, q2⟩
              · have hp : g_yi l op c i (l 2 (3 * j)) = ds (l 2 (3 * j)) := Classical.byContradiction fun z => by
                  have := hmin _ ⟨g2.1, z⟩
                  omega
                rw [← q1] at w1
                have : g_yi l op c (i + 1) u ≤ g_yi l op c i (l 2 (3 * j)) + l 2 (3 * j + 2) := w1
                omega
              · have hp : g_yi l op c i (l 2 (3 * j + 1)) = ds (l 2 (3 * j + 1)) := Classical.byContradiction fun z => by
                  have := hmin _ ⟨g2.2.1, z⟩
                  omega
                rw [← q1] at w2
                have : g_yi l op c (i + 1) u ≤ g_yi l op c i (l 2 (3 * j + 1)) + l 2 (3 * j + 2) := w2
                omega
          have h1 := fb_ct_upd (fun v => decide (g_yi l op c i v = ds v)) true hu1
          have h2 : fb_ct (fun k => if k = u then true else decide (g_yi l op c i k = ds k)) (l 0 0) ≤ fb_ct (fun v => decide (g_yi l op c (i + 1) v = ds v)) (l 0 0) := fb_ct_sub (fun k hk hp => by
            (try dsimp only at hp ⊢)
            by_cases e : k = u
            · rw [e]
              exact decide_eq_true huw
            · rw [if_neg e] at hp
              have h3 := of_decide_eq_true hp
              have h4 := hlow (i + 1) k
              have h5 := g_yi_mono l op c i 1 k
              exact decide_eq_true (by omega))
          (try dsimp only at h1)
          rw [decide_eq_false hu2, if_neg (by decide), if_pos rfl] at h1
          exact Or.inr (by omega)
  have fin : g_yi l op c (l 0 0 - 1) = ds := by
    funext v
    by_cases z : v < l 0 0
    · rcases key (l 0 0 - 1) with k | k
      · exact k v z
      · have h1 := fb_ct_le (fun v => decide (g_yi l op c (l 0 0 - 1) v = ds v)) (l 0 0)
        have h2 := fb_ct_all.mp (show fb_ct (fun v => decide (g_yi l op c (l 0 0 - 1) v = ds v)) (l 0 0) = l 0 0 by omega) v z
        exact of_decide_eq_true h2
    · rw [g_yi_out hg (by omega) c, ← hds, g_yi_out hg (by omega) c]
  show g_yr l op (l 0 1) 0 (g_yi l op c (l 0 0 - 1)) = _
  rw [fin, ← hds]
  exact hfix

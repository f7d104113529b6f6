/-! Tokens of a text, pure. -/
def g_wh (q : Nat → Bool) (N : Nat) : Nat → Nat → Nat
  | 0, p => p
  | n + 1, p => if p < N ∧ q p = true then g_wh q N n (p + 1) else p
def tk_w (q : Nat → Bool) (N p : Nat) : Nat := g_wh q N (N - p) p
theorem tk_w_go {q : Nat → Bool} {N p : Nat} (h : p < N) (hq : q p = true) : tk_w q N p = tk_w q N (p + 1) := by
  unfold tk_w
  rw [show N - p = N - (p + 1) + 1 by omega]
  show (if p < N ∧ q p = true then g_wh q N (N - (p + 1)) (p + 1) else p) = _
  rw [if_pos ⟨h, hq⟩]
theorem tk_w_st {q : Nat → Bool} {N p : Nat} (h : N ≤ p ∨ q p = false) : tk_w q N p = p := by
  unfold tk_w
  cases e : N - p with
  | zero => rfl
  | succ n =>
    show (if p < N ∧ q p = true then g_wh q N n (p + 1) else p) = p
    rw [if_neg]
    rintro ⟨h1, h2⟩
    rcases h with h | h
    · omega
    · rw [h] at h2
      cases h2
theorem tk_w_sp (q : Nat → Bool) (N : Nat) : ∀ (n p : Nat), N - p ≤ n → p ≤ N → p ≤ tk_w q N p ∧ tk_w q N p ≤ N ∧ (tk_w q N p < N → q (tk_w q N p) = false) ∧ ∀ i, p ≤ i → i < tk_w q N p → q i = true
  | n, p, hn, hp => by
    by_cases h : p < N ∧ q p = true
    · match n with
      | 0 => omega
      | n + 1 =>
        obtain ⟨a1, a2, a3, a4⟩ := tk_w_sp q N n (p + 1) (by omega) (by omega)
        rw [tk_w_go h.1 h.2]
        refine ⟨by omega, a2, a3, fun i h1 h2 => ?_⟩
        by_cases e : i = p
        · rw [e]; exact h.2
        · exact a4 i (by omega) h2
    · have h' : N ≤ p ∨ q p = false := by
        by_cases h1 : p < N
        · refine Or.inr ?_
          cases e : q p
          · rfl
          · exact absurd ⟨h1, e⟩ h
        · exact Or.inl (by omega)
      rw [tk_w_st h']
      refine ⟨by omega, hp, fun h1 => ?_, fun i h1 h2 => by omega⟩
      rcases h' with h' | h'
      · omega
      · exact h'
def tk_bl (t : Nat → Nat) (i : Nat) : Bool := decide (t i = 10 ∨ t i = 32)
def tk_le (t : Nat → Nat) (i : Nat) : Bool := decide (97 ≤ t i ∧ t i ≤ 122)
def tk_di (t : Nat → Nat) (i : Nat) : Bool := decide (48 ≤ t i ∧ t i ≤ 57)
def tk_s (t : Nat → Nat) (N b : Nat) : Nat := tk_w (tk_bl t) N b
def tk_gl (t : Nat → Nat) (b s : Nat) : Bool := decide (s = b) && (decide (0 < s) && (tk_le t (s - 1) || tk_di t (s - 1)))
def tk_isW (t : Nat → Nat) (s e : Nat) : List Nat → Bool
  | [] => decide (s = e)
  | c :: W => decide (s < e) && (decide (t s = c) && tk_isW t (s + 1) e W)
def tk_ix (t : Nat → Nat) (s e : Nat) : List (List Nat) → Nat → Nat
  | [], _ => 287
  | v :: W, k => if tk_isW t s e v = true then k else tk_ix t s e W (k + 1)
def tk_wd : List (List Nat) := [[102, 105, 101, 108, 100], [108, 117, 114, 101], [103, 97, 112], [116, 111], [109, 105, 108, 101, 115], [115, 104, 117, 116], [115, 104, 101, 101, 112], [97, 116], [99, 117, 114, 105, 111, 117, 115], [108, 117, 114, 101, 115], [115, 116, 97, 121, 115], [119, 111, 114, 116, 104], [115, 116, 111, 114, 109], [119, 111, 111, 108], [100, 97, 121], [115, 101, 101, 110], [99, 114, 105, 109, 112], [108, 101, 100], [110, 117, 109, 98, 101, 114], [111, 114], [97, 110, 100], [110, 111, 116], [97, 108, 108], [109, 105, 110], [109, 97, 120], [102, 105, 114, 115, 116], [108, 97, 115, 116], [111, 102, 116, 101, 110], [116, 111, 116, 97, 108], [109, 111, 115, 116], [108, 101, 97, 115, 116]]
def tk_e (t : Nat → Nat) (N b : Nat) : Nat := if tk_s t N b < N then (if tk_le t (tk_s t N b) = true then tk_w (tk_le t) N (tk_s t N b) else if tk_di t (tk_s t N b) = true then tk_w (tk_di t) N (tk_s t N b) else tk_s t N b + 1) else tk_s t N b
def tk_k (t : Nat → Nat) (N b : Nat) : Nat := if tk_s t N b < N then (if tk_le t (tk_s t N b) = true then (if tk_gl t b (tk_s t N b) = true then 302 else tk_ix t (tk_s t N b) (tk_e t N b) tk_wd 256) else if tk_di t (tk_s t N b) = true then (if tk_gl t b (tk_s t N b) = true then 302 else 300) else t (tk_s t N b)) else 301
theorem tk_s_sp (t : Nat → Nat) {N b : Nat} (hb : b ≤ N) : b ≤ tk_s t N b ∧ tk_s t N b ≤ N ∧ (tk_s t N b < N → tk_bl t (tk_s t N b) = false) ∧ ∀ i, b ≤ i → i < tk_s t N b → tk_bl t i = true := tk_w_sp _ _ _ _ (Nat.le_refl _) hb
theorem tk_e_sp (t : Nat → Nat) {N b : Nat} (hb : b ≤ N) : tk_s t N b ≤ tk_e t N b ∧ tk_e t N b ≤ N ∧ (tk_s t N b < N → tk_s t N b < tk_e t N b) := by
  have h1 := tk_s_sp t hb
  unfold tk_e
  by_cases c : tk_s t N b < N
  · rw [if_pos c]
    by_cases c1 : tk_le t (tk_s t N b) = true
    · rw [if_pos c1, tk_w_go c c1]
      have h2 := tk_w_sp (tk_le t) N _ (tk_s t N b + 1) (Nat.le_refl _) (by omega)
      omega
    · rw [if_neg c1]
      by_cases c2 : tk_di t (tk_s t N b) = true
      · rw [if_pos c2, tk_w_go c c2]
        have h2 := tk_w_sp (tk_di t) N _ (tk_s t N b + 1) (Nat.le_refl _) (by omega)
        omega
      · rw [if_neg c2]
        omega
  · rw [if_neg c]
    omega
theorem tk_ix_le (t : Nat → Nat) (s e : Nat) : ∀ (W : List (List Nat)) (k : Nat), k + W.length ≤ 287 → k ≤ tk_ix t s e W k ∧ tk_ix t s e W k ≤ 287
  | [], k, h => by
    show k ≤ 287 ∧ 287 ≤ 287
    simp at h
    omega
  | v :: W, k, h => by
    have h1 := tk_ix_le t s e W (k + 1) (by simp at h; omega)
    unfold tk_ix
    simp at h
    split <;> omega
theorem tk_k_lt {t : Nat → Nat} (ht : ∀ i, t i < 256) (N b : Nat) : tk_k t N b ≤ 302 := by
  unfold tk_k
  have h1 := tk_ix_le t (tk_s t N b) (tk_e t N b) tk_wd 256 (by decide)
  have h2 := ht (tk_s t N b)
  split
  · split
    · split <;> omega
    · split
      · split <;> omega
      · omega
  · omega
/-! The class reads bytes. -/
theorem sB_i {n : Nat} (h : n < 256) : (sB n).toInt = if n < 128 then (n : Int) else (n : Int) - 256 := by
  have : ∀ n, n < 256 → (sB n).toInt = if n < 128 then (n : Int) else (n : Int) - 256 := by decide +kernel
  exact this n h
theorem sB_c {n c : Nat} (h : n < 256) (hc : c < 128) : sB n = nI c ↔ n = c := by
  rw [fa_eq, sB_i h, nI_toInt (by omega)]
  split <;> omega
/-- the text in the class's hands -/
def px_tx (σ : sw_St) (t : Nat → Nat) (N : Nat) : Prop := σ.2.2 2 0 = some 1 ∧ (∀ i, i < N → σ.1 1 i = sB (t i)) ∧ σ.1 2 1 = nI N
theorem px_isLe {σ : sw_St} {t : Nat → Nat} {N i : Nat} (h : px_tx σ t N) (ht : ∀ i, t i < 256) (hN : N ≤ 1600) (hi : i < N) : F_X6_isLetter σ (nI i) = some (g_ok1 (tk_le t i), σ) := by
  have h256 := ht i
  unfold F_X6_isLetter S_X6_isLetter_26 S_X6_isLetter_27 tk_le
  rw [h.1]
  dsimp only [Option.bind_some]
  rw [if_pos sw_c1.1, sw_c1.2.2, if_pos (pz_inb (by omega) (by omega)), if_pos sw_c1.1, nI_clamp (by omega), h.2.1 i hi, if_pos (pz_inb (by omega) (by omega)), if_pos (Or.inl rfl), if_pos (Or.inr rfl)]
  have e1 : sB (t i) < 97 ↔ ¬ (97 ≤ t i ∧ t i < 128) := by
    rw [fa_lt, sB_i h256, show (97 : Int32).toInt = 97 from by decide]
    split <;> omega
  have e2 : (122 : Int32) < sB (t i) ↔ (122 < t i ∧ t i < 128) := by
    rw [fa_lt, sB_i h256, show (122 : Int32).toInt = 122 from by decide]
    split <;> omega
  by_cases c1 : 97 ≤ t i ∧ t i ≤ 122
  · rw [if_neg (fun y => e1.mp y (by omega)), if_neg (fun y => by have := e2.mp y; omega), decide_eq_true c1]
    rfl
  · rw [decide_eq_false c1]
    by_cases c2 : sB (t i) < 97
    · rw [if_pos c2]
      rfl
    · rw [if_neg c2, if_pos (e2.mpr (by
        have : 97 ≤ t i ∧ t i < 128 := Classical.byContradiction fun y => c2 (e1.mpr y)
        omega))]
      rfl
theorem px_isDi {σ : sw_St} {t : Nat → Nat} {N i : Nat} (h : px_tx σ t N) (ht : ∀ i, t i < 256) (hN : N ≤ 1600) (hi : i < N) : F_X6_isDigit σ (nI i) = some (g_ok1 (tk_di t i), σ) := by
  have h256 := ht i
  unfold F_X6_isDigit S_X6_isDigit_26 S_X6_isDigit_27 tk_di
  rw [h.1]
  dsimp only [Option.bind_some]
  rw [if_pos sw_c1.1, sw_c1.2.2, if_pos (pz_inb (by omega) (by omega)), if_pos sw_c1.1, nI_clamp (by omega), h.2.1 i hi, if_pos (pz_inb (by omega) (by omega)), if_pos (Or.inl rfl), if_pos (Or.inr rfl)]
  have e1 : sB (t i) < 48 ↔ ¬ (48 ≤ t i ∧ t i < 128) := by
    rw [fa_lt, sB_i h256, show (48 : Int32).toInt = 48 from by decide]
    split <;> omega
  have e2 : (57 : Int32) < sB (t i) ↔ (57 < t i ∧ t i < 128) := by
    rw [fa_lt, sB_i h256, show (57 : Int32).toInt = 57 from by decide]
    split <;> omega
  by_cases c1 : 48 ≤ t i ∧ t i ≤ 57
  · rw [if_neg (fun y => e1.mp y (by omega)), if_neg (fun y => by have := e2.mp y; omega), decide_eq_true c1]
    rfl
  · rw [decide_eq_false c1]
    by_cases c2 : sB (t i) < 48
    · rw [if_pos c2]
      rfl
    · rw [if_neg c2, if_pos (e2.mpr (by
        have : 48 ≤ t i ∧ t i < 128 := Classical.byContradiction fun y => c2 (e1.mpr y)
        omega))]
      rfl
/-- words told by a blank each -/
def tk_fl : List Nat := tk_wd.flatMap (fun v => v ++ [32])
theorem tk_fl_at : ∀ k, k < 158 → sw_wd k = nI (tk_fl.getD k 0) ∧ tk_fl.getD k 0 < 128 := by decide +kernel
theorem tk_fl_len : tk_fl.length = 158 := by decide +kernel
theorem px_wk1 {σ : sw_St} {t : Nat → Nat} {N s e : Nat} (h : px_tx σ t N) (ht : ∀ i, t i < 256) (hN : N ≤ 1600) (heN : e ≤ N) (hs : s ≤ N) (h3 : σ.1 2 3 = nI s) (h4 : σ.1 2 4 = nI e) : ∀ (v rest : List Nat) (fuel kd i k : Nat) (sm : Bool), tk_fl.drop k = v ++ 32 :: rest → (∀ c ∈ v, c ≠ 32) → i + v.length ≤ 3000 → kd ≤ 300 → v.length + 1 < fuel →
    ∃ fuel', fuel' + v.length + 1 = fuel ∧ L_X6_wordKind_14 fuel σ (nI kd) (nI i) (g_ok1 sm) (nI k) = if (sm && tk_isW t i e v) = true then some (nI kd, σ) else L_X6_wordKind_14 fuel' σ (nI (kd + 1)) (nI s) 1 (nI (k + v.length + 1))
  | [], rest, fuel + 1, kd, i, k, sm, hv, hn, hi, hkd, hf => by
    have hk : k < 158 := by
      refine Classical.byContradiction fun y => ?_
      rw [List.drop_eq_nil_of_le (by rw [tk_fl_len]; omega)] at hv
      cases hv
    have hgd : tk_fl.getD k 0 = 32 := by
      have e0 := g_drp (d := 0) (show k < tk_fl.length by rw [tk_fl_len]; exact hk)
      rw [hv] at e0
      exact (List.cons.inj e0).1.symm
    refine ⟨fuel, by simp, ?_⟩
    show S_X6_wordKind_14 _ σ (nI kd) (nI i) (g_ok1 sm) (nI k) = _
    unfold S_X6_wordKind_14 S_X6_wordKind_89 S_X6_wordKind_99 tk_isW
    rw [if_neg (show ¬ (158 : Int32) ≤ nI k from nI_ge (b := 158) (by omega) (by omega)), if_pos (pz_inb hk (by omega)), nI_clamp (by omega), (tk_fl_at k hk).1, hgd, if_pos (show nI 32 = 32 from rfl), h3, h4, nI_1, nI_1]
    cases sm with
    | false =>
      rw [if_pos (show g_ok1 false = 0 from rfl), Bool.false_and, if_neg (by decide)]
      rfl
    | true =>
      rw [if_neg (show ¬ g_ok1 true = 0 from pz_10), Bool.true_and]
      have hi' : i ≤ 3000 := by simp at hi; omega
      by_cases c : i = e
      · rw [if_pos (by rw [c]), if_pos (decide_eq_true c)]
      · rw [if_neg (fun y => c (by rw [nI_eq (by omega) (by omega)] at y; exact y)), if_neg (by simpa using c)]
        rfl
  | c :: v, rest, fuel + 1, kd, i, k, sm, hv, hn, hi, hkd, hf => by
    have hk : k < 158 := by
      refine Classical.byContradiction fun y => ?_
      rw [List.drop_eq_nil_of_le (by rw [tk_fl_len]; omega)] at hv
      cases hv
    have e0 := g_drp (d := 0) (show k < tk_fl.length by rw [tk_fl_len]; exact hk)
    rw [hv] at e0
    have hgd : tk_fl.getD k 0 = c := (List.cons.inj e0).1.symm
    have hdr : tk_fl.drop (k + 1) = v ++ 32 :: rest := (List.cons.inj e0).2.symm
    have hc32 : c ≠ 32 := hn c (by simp)
    have hc128 := (tk_fl_at k hk).2
    rw [hgd] at hc128
    have hti := ht i
    have hi' : i ≤ 3000 := by simp at hi; omega
    have ih := fun sm2 => px_wk1 h ht hN heN hs h3 h4 v rest fuel kd (i + 1) (k + 1) sm2 hdr (fun c2 h2 => hn c2 (by simp [h2])) (by simp at hi; omega) hkd (by simp at hf; omega)
    obtain ⟨fuel', f1, f2⟩ := ih (sm && (decide (i < e) && decide (t i = c)))
    refine ⟨fuel', by simp; omega, ?_⟩
    rw [show k + (c :: v).length + 1 = k + 1 + v.length + 1 by simp; omega, show (sm && tk_isW t i e (c :: v)) = ((sm && (decide (i < e) && decide (t i = c))) && tk_isW t (i + 1) e v) from by
      show (sm && (decide (i < e) && (decide (t i = c) && tk_isW t (i + 1) e v))) = _
      simp only [Bool.and_assoc], ← f2]
    show S_X6_wordKind_14 _ σ (nI kd) (nI i) (g_ok1 sm) (nI k) = _
    unfold S_X6_wordKind_14 S_X6_wordKind_67 S_X6_wordKind_68 S_X6_wordKind_99
    rw [if_neg (show ¬ (158 : Int32) ≤ nI k from nI_ge (b := 158) (by omega) (by omega)), if_pos (pz_inb hk (by omega)), nI_clamp (by omega), (tk_fl_at k hk).1, hgd, if_neg (show ¬ nI c = 32 from fun y => hc32 ((nI_eq (b := 32) (by omega) (by omega)).mp y)), h4, nI_1, nI_1]
    cases sm with
    | false =>
      rw [if_pos (show g_ok1 false = 0 from rfl)]
      rfl
    | true =>
      rw [if_neg (show ¬ g_ok1 true = 0 from pz_10), Bool.true_and]
      by_cases c1 : i < e
      · rw [if_neg (nI_ge c1 (by omega)), h.1]
        dsimp only [Option.bind_some]
        rw [if_pos sw_c1.1, sw_c1.2.2, if_pos (pz_inb (by omega) (by omega)), nI_clamp (show i < 2 ^ 31 by omega), h.2.1 i (by omega), decide_eq_true c1, Bool.true_and]
        by_cases c2 : t i = c
        · rw [if_pos ((sB_c hti hc128).mpr c2), decide_eq_true c2]
          rfl
        · rw [if_neg (fun y => c2 ((sB_c hti hc128).mp y)), decide_eq_false c2]
          rfl
      · rw [if_pos (nI_le (by omega) (by omega)), decide_eq_false c1, Bool.false_and]
        rfl
theorem px_wkl {σ : sw_St} {t : Nat → Nat} {N s e : Nat} (h : px_tx σ t N) (ht : ∀ i, t i < 256) (hN : N ≤ 1600) (heN : e ≤ N) (hs : s ≤ N) (h3 : σ.1 2 3 = nI s) (h4 : σ.1 2 4 = nI e) : ∀ (W : List (List Nat)) (fuel kd k : Nat), tk_fl.drop k = W.flatMap (fun v => v ++ [32]) → (∀ v ∈ W, v.length ≤ 10 ∧ ∀ c ∈ v, c ≠ 32) → kd + W.length = 287 → k + (W.flatMap (fun v => v ++ [32])).length = 158 → 400 < fuel + 2 * k → L_X6_wordKind_14 fuel σ (nI kd) (nI s) 1 (nI k) = some (nI (tk_ix t s e W kd), σ)
  | [], fuel, kd, k, hk, hW, hkd, hkl, hf => by
    match fuel with
    | 0 =>
      simp at hkl
      omega
    | fuel + 1 =>
      show S_X6_wordKind_14 _ σ (nI kd) (nI s) 1 (nI k) = _
      unfold S_X6_wordKind_14
      simp at hkl
      rw [if_pos (show (158 : Int32) ≤ nI k from nI_le (a := 158) (by omega) (by omega))]
      rfl
  | v :: W, fuel, kd, k, hk, hW, hkd, hkl, hf => by
    have hv := hW v (by simp)
    have hfl : (v :: W).flatMap (fun v => v ++ [32]) = v ++ 32 :: W.flatMap (fun v => v ++ [32]) := by simp
    rw [hfl] at hk hkl
    simp only [List.length_append, List.length_cons] at hkl hkd
    obtain ⟨fuel', f1, f2⟩ := px_wk1 h ht hN heN hs h3 h4 v (W.flatMap (fun v => v ++ [32])) fuel kd s k true hk hv.2 (by omega) (by omega) (by omega)
    rw [show L_X6_wordKind_14 fuel σ (nI kd) (nI s) 1 (nI k) = _ from f2, Bool.true_and]
    unfold tk_ix
    by_cases c : tk_isW t s e v = true
    · rw [if_pos c, if_pos c]
    · rw [if_neg c, if_neg c]
      refine px_wkl h ht hN heN hs h3 h4 W fuel' (kd + 1) (k + v.length + 1) ?_ (fun v2 h2 => hW v2 (by simp [h2])) (by omega) (by omega) (by omega)
      rw [show k + v.length + 1 = k + (v.length + 1) by omega, ← List.drop_drop, hk]
      rw [show v ++ 32 :: W.flatMap (fun v => v ++ [32]) = (v ++ [32]) ++ W.flatMap (fun v => v ++ [32]) by simp]
      rw [show v.length + 1 = (v ++ [32]).length by simp, List.drop_left]
theorem px_wkind {σ : sw_St} {t : Nat → Nat} {N s e : Nat} (h : px_tx σ t N) (ht : ∀ i, t i < 256) (hN : N ≤ 1600) (heN : e ≤ N) (hs : s ≤ N) (h3 : σ.1 2 3 = nI s) (h4 : σ.1 2 4 = nI e) : F_X6_wordKind σ = some (nI (tk_ix t s e tk_wd 256), σ) := by
  unfold F_X6_wordKind
  rw [h3]
  exact px_wkl h ht hN heN hs h3 h4 tk_wd sw_fuel 256 0 rfl (by decide) (by decide) (by decide +kernel) (by have := sw_fuel_ge; omega)

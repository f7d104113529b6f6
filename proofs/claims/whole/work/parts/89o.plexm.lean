/-! The reference reads tokens. -/
def pm_lx (τ τ' : sw_St) : Prop := pm_sm [] [2, 4, 5, 6, 10, 36] τ τ'
def tk_al (t : Nat → Nat) (b : Nat) : Bool := decide (0 < b) && (tk_le t (b - 1) || tk_di t (b - 1))
def pm_tx (τ : sw_St) (t : Nat → Nat) (N : Nat) : Prop := (∀ i, i < N → τ.1 1 i = nI (t i)) ∧ τ.1 0 3 = nI N ∧ pm_wd τ ∧ τ.1 0 6 = -1
def pm_en (τ : sw_St) (t : Nat → Nat) (b : Nat) : Prop := ∃ e, τ.1 0 4 = g_m1 e ∧ e ≤ b + 1 ∧ (e = b + 1 ↔ tk_al t b = true)
def pm_ps (τ : sw_St) (t : Nat → Nat) (N b : Nat) : Prop := pm_tx τ t N ∧ (∃ a, b ≤ a ∧ a ≤ tk_s t N b ∧ τ.1 0 2 = nI a) ∧ τ.1 0 5 = 0 ∧ pm_en τ t b
def pm_pa (τ : sw_St) (t : Nat → Nat) (N b : Nat) : Prop := pm_tx τ t N ∧ τ.1 0 2 = nI (tk_s t N b) ∧ τ.1 0 5 = 0 ∧ pm_en τ t b
def pm_bad (τ : sw_St) (kd pl : Nat) : Prop := τ.1 0 5 = nI kd ∧ τ.1 0 6 = nI pl
theorem pm_pa.ps {τ : sw_St} {t : Nat → Nat} {N b : Nat} (h : pm_pa τ t N b) (hb : b ≤ N) : pm_ps τ t N b := ⟨h.1, ⟨_, (tk_s_sp t hb).1, Nat.le_refl _, h.2.1⟩, h.2.2⟩
theorem pm_tx.mv {τ τ' : sw_St} {t : Nat → Nat} {N : Nat} {S K : List Nat} (h : pm_tx τ t N) (m : pm_sm S K τ τ') (hS : ∀ o ∈ S, 71 ≤ o ∧ o ≤ 73) (hK : 3 ∉ K ∧ 6 ∉ K) : pm_tx τ' t N :=
  ⟨fun i hi => by rw [m.r (by decide) (fun y => by have := hS _ y; omega)]; exact h.1 i hi, by rw [m.2.1 3 hK.1]; exact h.2.1, h.2.2.1.mv m (fun x hx y => by
    have h70 : ∀ x ∈ pm_wl, x.1 ≤ 70 := by decide
    have := h70 x hx
    have := hS _ y
    omega), by rw [m.2.1 6 hK.2]; exact h.2.2.2⟩
theorem pm_lkl {t : Nat → Nat} {N b : Nat} (ht : ∀ i, t i < 256) (hN : N ≤ 1600) : ∀ (n fuel a : Nat) (τ : sw_St), pm_tx τ t N → τ.1 0 2 = nI a → a ≤ N → N - a ≤ n → n < fuel →
    ∃ τ', L_X11_look_0 fuel τ = some (if tk_w (tk_bl t) N a < N then nI (t (tk_w (tk_bl t) N a)) else -1, τ') ∧ pm_sm [] [2] τ τ' ∧ τ'.1 0 2 = nI (tk_w (tk_bl t) N a)
  | n, fuel + 1, a, τ, h, h2, ha, hn, hf => by
    have e0 : L_X11_look_0 (fuel + 1) τ = S_X11_look_0 (fun σ => L_X11_look_0 fuel σ) τ := rfl
    rw [e0]
    by_cases c : a < N
    · have hta := ht a
      have go : tk_bl t a = true → ∃ τ', L_X11_look_0 fuel (sw_uI τ 0 2 (nI (a + 1))) = some (if tk_w (tk_bl t) N a < N then nI (t (tk_w (tk_bl t) N a)) else -1, τ') ∧ pm_sm [] [2] τ τ' ∧ τ'.1 0 2 = nI (tk_w (tk_bl t) N a) := fun hb => by
        match n with
        | 0 => omega
        | n + 1 =>
          have m1 : pm_sm [] [2] τ (sw_uI τ 0 2 (nI (a + 1))) := (pm_sm.refl _ _ τ).K (by decide) _
          obtain ⟨τ', q1, q2, q3⟩ := pm_lkl (b := b) ht hN n fuel (a + 1) _ (h.mv m1 (by simp) (by decide)) (pz_Ie rfl rfl) (by omega) (by omega) (by omega)
          rw [tk_w_go c hb]
          exact ⟨τ', q1, m1.trans q2, q3⟩
      unfold S_X11_look_0 S_X11_look_39
      rw [h.2.1, h2, if_neg (nI_ge c (by omega)), if_pos (pz_inb (by omega) (by omega)), nI_clamp (by omega), h.1 a c, nI_1]
      by_cases c1 : t a = 10
      · rw [if_pos (show nI (t a) = 10 from by rw [c1]; rfl)]
        exact go (decide_eq_true (Or.inl c1))
      · rw [if_neg (show ¬ nI (t a) = 10 from fun y => c1 ((nI_eq (b := 10) (by omega) (by omega)).mp y)), if_pos (pz_inb (by omega) (by omega))]
        by_cases c2 : t a = 32
        · rw [if_pos (show nI (t a) = 32 from by rw [c2]; rfl)]
          exact go (decide_eq_true (Or.inr c2))
        · rw [if_neg (show ¬ nI (t a) = 32 from fun y => c2 ((nI_eq (b := 32) (by omega) (by omega)).mp y))]
          refine ⟨τ, ?_, pm_sm.refl _ _ _, by rw [h2, tk_w_st (Or.inr (decide_eq_false (by omega)))]⟩
          rw [tk_w_st (Or.inr (decide_eq_false (by omega))), if_pos c]
          unfold S_X11_look_52 S_X11_look_76
          rw [h.2.1, h2, if_neg (nI_ge c (by omega)), if_pos (pz_inb (by omega) (by omega)), nI_clamp (by omega), h.1 a c]
    · refine ⟨τ, ?_, pm_sm.refl _ _ _, by rw [h2, tk_w_st (Or.inl (by omega))]⟩
      rw [tk_w_st (Or.inl (by omega)), if_neg c]
      unfold S_X11_look_0 S_X11_look_52 S_X11_look_76
      rw [h.2.1, h2, if_pos (nI_le (by omega) (by omega)), if_pos (nI_le (by omega) (by omega))]
theorem tk_w_mid {q : Nat → Bool} {N : Nat} : ∀ (n b a : Nat), a - b = n → b ≤ a → a ≤ tk_w q N b → b ≤ N → tk_w q N a = tk_w q N b
  | 0, b, a, h, h1, h2, hb => by rw [show a = b by omega]
  | n + 1, b, a, h, h1, h2, hb => by
    have sp := tk_w_sp q N _ b (Nat.le_refl _) hb
    have hlt : b < tk_w q N b := by omega
    have hq := sp.2.2.2 b (Nat.le_refl _) hlt
    rw [tk_w_go (show b < N by omega) hq] at h2 ⊢
    exact tk_w_mid n (b + 1) a (by omega) (by omega) h2 (by omega)
def tk_c (t : Nat → Nat) (N b : Nat) : Int32 := if tk_s t N b < N then nI (t (tk_s t N b)) else -1
theorem pm_look {τ : sw_St} {t : Nat → Nat} {N b : Nat} (h : pm_ps τ t N b) (ht : ∀ i, t i < 256) (hN : N ≤ 1600) (hb : b ≤ N) : ∃ τ', F_X11_look τ = some (tk_c t N b, τ') ∧ pm_pa τ' t N b ∧ pm_sm [] [2] τ τ' := by
  obtain ⟨h1, ⟨a, a1, a2, a3⟩, h3, h4⟩ := h
  have hs := tk_s_sp t hb
  obtain ⟨τ', p1, p2, p3⟩ := pm_lkl (b := b) ht hN N sw_fuel a τ h1 a3 (by omega) (by omega) (by have := sw_fuel_ge; omega)
  have e : tk_w (tk_bl t) N a = tk_s t N b := tk_w_mid _ b a rfl a1 a2 hb
  rw [e] at p1 p3
  obtain ⟨e', e1, e2⟩ := h4
  exact ⟨τ', p1, ⟨h1.mv p2 (by simp) (by decide), p3, by rw [p2.2.1 5 (by decide)]; exact h3, e', by rw [p2.2.1 4 (by decide)]; exact e1, e2⟩, p2⟩
theorem pm_glue {τ : sw_St} {t : Nat → Nat} {N b : Nat} (h : pm_pa τ t N b) (hb : b ≤ N) (hN : N ≤ 1600) : τ.1 0 2 = τ.1 0 4 ↔ tk_gl t b (tk_s t N b) = true := by
  obtain ⟨-, h2, -, e, e1, e2, e3⟩ := h
  have hs := tk_s_sp t hb
  rw [h2, e1, ← g_m1_s, fa_eq, g_m1_toInt (by omega), g_m1_toInt (by omega)]
  unfold tk_gl
  constructor
  · intro y
    have hsb : tk_s t N b = b := by omega
    have hal := e3.mp (by omega)
    rw [hsb, decide_eq_true rfl, Bool.true_and]
    exact hal
  · intro y
    obtain ⟨y1, y2⟩ := pz_ba y
    have y1 := of_decide_eq_true y1
    rw [y1] at y2 ⊢
    have := e3.mpr y2
    omega
theorem pm_isLeI {τ : sw_St} {x : Int32} : F_X11_isLetter τ x = some (g_ok1 (decide (97 ≤ x.toInt ∧ x.toInt ≤ 122)), τ) := by
  unfold F_X11_isLetter S_X11_isLetter_16 S_X11_isLetter_17
  rw [if_pos (Or.inl rfl), if_pos (Or.inr rfl)]
  simp only [fa_lt, show (97 : Int32).toInt = 97 from by decide, show (122 : Int32).toInt = 122 from by decide]
  by_cases c1 : x.toInt < 97
  · rw [if_pos c1, decide_eq_false (by omega)]
    rfl
  · rw [if_neg c1]
    by_cases c2 : 122 < x.toInt
    · rw [if_pos c2, decide_eq_false (by omega)]
      rfl
    · rw [if_neg c2, decide_eq_true (by omega)]
      rfl
theorem pm_isDiI {τ : sw_St} {x : Int32} : F_X11_isDigit τ x = some (g_ok1 (decide (48 ≤ x.toInt ∧ x.toInt ≤ 57)), τ) := by
  unfold F_X11_isDigit S_X11_isDigit_16 S_X11_isDigit_17
  rw [if_pos (Or.inl rfl), if_pos (Or.inr rfl)]
  simp only [fa_lt, show (48 : Int32).toInt = 48 from by decide, show (57 : Int32).toInt = 57 from by decide]
  by_cases c1 : x.toInt < 48
  · rw [if_pos c1, decide_eq_false (by omega)]
    rfl
  · rw [if_neg c1]
    by_cases c2 : 57 < x.toInt
    · rw [if_pos c2, decide_eq_false (by omega)]
      rfl
    · rw [if_neg c2, decide_eq_true (by omega)]
      rfl
theorem pm_isLeN {τ : sw_St} {t : Nat → Nat} {i : Nat} (ht : ∀ i, t i < 256) : F_X11_isLetter τ (nI (t i)) = some (g_ok1 (tk_le t i), τ) := by
  have := ht i
  rw [pm_isLeI, nI_toInt (by omega)]
  unfold tk_le
  congr 3
  exact decide_eq_decide.mpr (by omega)
theorem pm_isDiN {τ : sw_St} {t : Nat → Nat} {i : Nat} (ht : ∀ i, t i < 256) : F_X11_isDigit τ (nI (t i)) = some (g_ok1 (tk_di t i), τ) := by
  have := ht i
  rw [pm_isDiI, nI_toInt (by omega)]
  unfold tk_di
  congr 3
  exact decide_eq_decide.mpr (by omega)
theorem pm_isLeC {τ : sw_St} {t : Nat → Nat} {N b : Nat} (ht : ∀ i, t i < 256) : F_X11_isLetter τ (tk_c t N b) = some (g_ok1 (decide (tk_s t N b < N) && tk_le t (tk_s t N b)), τ) := by
  unfold tk_c
  by_cases c : tk_s t N b < N
  · rw [if_pos c, pm_isLeN ht, decide_eq_true c, Bool.true_and]
  · rw [if_neg c, pm_isLeI, decide_eq_false c, Bool.false_and]
    rfl
theorem pm_isDiC {τ : sw_St} {t : Nat → Nat} {N b : Nat} (ht : ∀ i, t i < 256) : F_X11_isDigit τ (tk_c t N b) = some (g_ok1 (decide (tk_s t N b < N) && tk_di t (tk_s t N b)), τ) := by
  unfold tk_c
  by_cases c : tk_s t N b < N
  · rw [if_pos c, pm_isDiN ht, decide_eq_true c, Bool.true_and]
  · rw [if_neg c, pm_isDiI, decide_eq_false c, Bool.false_and]
    rfl
/-- which cell is which word -/
def pm_ck : List (Nat × Nat) := [(3, 256), (4, 257), (5, 258), (6, 259), (7, 260), (8, 261), (9, 262), (10, 263), (11, 264), (12, 265), (13, 266), (14, 267), (15, 268), (16, 269), (17, 270), (18, 271), (19, 272), (20, 273), (21, 274), (22, 275), (23, 276), (24, 277), (25, 278), (26, 279), (27, 280), (47, 281), (48, 282), (49, 283), (50, 284), (51, 285), (52, 286), (53, 277), (54, 276), (55, 275), (56, 278), (57, 279), (58, 280), (59, 264), (60, 269), (61, 270), (62, 257), (63, 271), (64, 260), (65, 272), (66, 273), (67, 274), (68, 263), (69, 271), (70, 265)]
theorem pm_ck_sp : ∀ x ∈ pm_ck, (x.1, tk_wd.getD (x.2 - 256) []) ∈ pm_wl ∧ 256 ≤ x.2 ∧ x.2 < 287 ∧ sw_isA sw_gM x.1 2 = true ∧ (sw_isA sw_gM x.1 0 || sw_isA sw_gM x.1 1 || sw_isA sw_gM x.1 2 || sw_isA sw_gM x.1 3) = true ∧ sw_ln sw_gM x.1 = (tk_wd.getD (x.2 - 256) []).length ∧ (tk_wd.getD (x.2 - 256) []).length ≤ 10 := by decide +kernel
theorem tk_isW_eq {t : Nat → Nat} : ∀ {s e : Nat} {v u : List Nat}, tk_isW t s e v = true → tk_isW t s e u = true → v = u
  | s, e, [], [], h1, h2 => rfl
  | s, e, [], c :: u, h1, h2 => by
    have a := of_decide_eq_true h1
    have b := of_decide_eq_true (pz_ba h2).1
    omega
  | s, e, c :: v, [], h1, h2 => by
    have a := of_decide_eq_true h2
    have b := of_decide_eq_true (pz_ba h1).1
    omega
  | s, e, c :: v, c' :: u, h1, h2 => by
    obtain ⟨a1, a2⟩ := pz_ba (pz_ba h1).2
    obtain ⟨b1, b2⟩ := pz_ba (pz_ba h2).2
    rw [tk_isW_eq a2 b2, ← of_decide_eq_true a1, ← of_decide_eq_true b1]
theorem tk_ix_iff {t : Nat → Nat} {s e : Nat} : ∀ (W : List (List Nat)) (k j : Nat), W.Nodup → j < W.length → k + W.length ≤ 287 → (tk_ix t s e W k = k + j ↔ tk_isW t s e (W.getD j []) = true)
  | [], k, j, hd, hj, hk => by simp at hj
  | v :: W, k, 0, hd, hj, hk => by
    have h1 := tk_ix_le t s e W (k + 1) (by simp at hk; omega)
    show (if tk_isW t s e v = true then k else tk_ix t s e W (k + 1)) = k + 0 ↔ tk_isW t s e v = true
    by_cases c : tk_isW t s e v = true
    · rw [if_pos c]
      exact ⟨fun _ => c, fun _ => rfl⟩
    · rw [if_neg c]
      exact ⟨fun y => by omega, fun y => absurd y c⟩
  | v :: W, k, j + 1, hd, hj, hk => by
    have hd2 := List.nodup_cons.mp hd
    have ih := tk_ix_iff (t := t) (s := s) (e := e) W (k + 1) j hd2.2 (by simp at hj; omega) (by simp at hk; omega)
    show (if tk_isW t s e v = true then k else tk_ix t s e W (k + 1)) = k + (j + 1) ↔ tk_isW t s e (W.getD j []) = true
    by_cases c : tk_isW t s e v = true
    · rw [if_pos c]
      refine ⟨fun y => by omega, fun y => ?_⟩
      have := tk_isW_eq c y
      exact absurd (this ▸ g_getD_mem (by simp at hj; omega)) hd2.1
    · rw [if_neg c, ← ih]
      constructor <;> (intro y; omega)
theorem tk_wd_nd : tk_wd.Nodup := by decide +kernel
/-- a word is here -/
theorem tk_here {t : Nat → Nat} {N b kd : Nat} (ht : ∀ i, t i < 256) (h1 : 256 ≤ kd) (h2 : kd < 287) : (decide (tk_s t N b < N) && tk_le t (tk_s t N b) && !tk_gl t b (tk_s t N b) && tk_isW t (tk_s t N b) (tk_e t N b) (tk_wd.getD (kd - 256) [])) = decide (tk_k t N b = kd) := by
  have hix := tk_ix_iff (t := t) (s := tk_s t N b) (e := tk_e t N b) tk_wd 256 (kd - 256) tk_wd_nd (by show kd - 256 < 31; omega) (by decide)
  have h256 := ht (tk_s t N b)
  rw [show 256 + (kd - 256) = kd by omega] at hix
  unfold tk_k
  by_cases c : tk_s t N b < N
  · rw [decide_eq_true c, Bool.true_and, if_pos c]
    cases hl : tk_le t (tk_s t N b) with
    | true =>
      rw [Bool.true_and, if_pos rfl]
      cases hg : tk_gl t b (tk_s t N b) with
      | true =>
        rw [if_pos rfl, Bool.not_true, Bool.false_and, decide_eq_false (by omega)]
      | false =>
        rw [if_neg (by decide), Bool.not_false, Bool.true_and]
        cases hw : tk_isW t (tk_s t N b) (tk_e t N b) (tk_wd.getD (kd - 256) []) with
        | true => rw [decide_eq_true (hix.mpr hw)]
        | false => rw [decide_eq_false (fun y => by rw [hix.mp y] at hw; cases hw)]
    | false =>
      rw [Bool.false_and, Bool.false_and, if_neg (by decide)]
      cases hd : tk_di t (tk_s t N b) with
      | true =>
        rw [if_pos rfl]
        split <;> rw [decide_eq_false (by omega)]
      | false => rw [if_neg (by decide), decide_eq_false (by omega)]
  · rw [decide_eq_false c, Bool.false_and, Bool.false_and, Bool.false_and, if_neg c, decide_eq_false (by omega)]
theorem pm_h76 {τ : sw_St} {t : Nat → Nat} {N s e c : Nat} (h : pm_tx τ t N) (hN : N ≤ 1600) (h2 : τ.1 0 2 = nI s) (ht : ∀ i, t i < 256) (hA : sw_isA sw_gM c 2 = true) (hL : (sw_isA sw_gM c 0 || sw_isA sw_gM c 1 || sw_isA sw_gM c 2 || sw_isA sw_gM c 3) = true) {W : List Nat} (hw : ∀ i, i < W.length → τ.1 c i = nI (W.getD i 0)) (hWc : ∀ x ∈ W, x < 200) (hln : sw_ln sw_gM c = W.length) (hl10 : W.length ≤ 10) (hsW : s + W.length ≤ N) (hWe : s + W.length = e) : ∀ (n fuel j : Nat), j + n = W.length → n < fuel → L_X11_isHere_76 fuel τ c (nI j) = some (g_ok1 (tk_isW t (s + j) e (W.drop j)), τ)
  | 0, fuel + 1, j, hj, hf => by
    show S_X11_isHere_76 _ τ c (nI j) = _
    unfold S_X11_isHere_76
    rw [if_pos hL, hln, if_pos (nI_le (by omega) (by omega)), List.drop_eq_nil_of_le (by omega)]
    unfold tk_isW
    rw [decide_eq_true (by omega)]
    rfl
  | n + 1, fuel + 1, j, hj, hf => by
    have htj := ht (s + j)
    have hjl : j < W.length := by omega
    have hwc := hWc _ (g_getD_mem (d := 0) hjl)
    show S_X11_isHere_76 _ τ c (nI j) = _
    unfold S_X11_isHere_76
    rw [if_pos hL, hln, if_neg (nI_ge hjl (by omega)), h2, nI_add, if_pos (pz_inb (by omega) (by omega)), if_pos hA, if_pos (pz_inb hjl (by omega)), nI_clamp (by omega), nI_clamp (by omega), h.1 _ (by omega), hw j hjl, g_drp (d := 0) hjl, nI_1]
    unfold tk_isW
    rw [decide_eq_true (show s + j < e by omega), Bool.true_and]
    by_cases c1 : t (s + j) = W.getD j 0
    · rw [if_pos (by rw [c1]), decide_eq_true c1, Bool.true_and]
      have := pm_h76 h hN h2 ht hA hL hw hWc hln hl10 hsW hWe n fuel (j + 1) (by omega) (by omega)
      rw [← Nat.add_assoc] at this
      exact this
    · rw [if_neg (fun y => c1 (by rw [nI_eq (by omega) (by omega)] at y; exact y)), decide_eq_false c1, Bool.false_and]
      rfl
theorem tk_isW_len {t : Nat → Nat} : ∀ {s e : Nat} {v : List Nat}, tk_isW t s e v = true → s + v.length = e
  | s, e, [], h => of_decide_eq_true h
  | s, e, c :: v, h => by
    have := tk_isW_len (pz_ba (pz_ba h).2).2
    simp
    omega
theorem pm_h35 {τ : sw_St} {t : Nat → Nat} {N s c : Nat} (h : pm_tx τ t N) (hN : N ≤ 1600) (ht : ∀ i, t i < 256) : ∀ (n fuel p : Nat), p ≤ N → N - p ≤ n → n < fuel → L_X11_isHere_35 fuel τ c (nI p) = S_X11_isHere_61 τ c (nI (tk_w (tk_le t) N p))
  | n, fuel + 1, p, hp, hn, hf => by
    have e0 : L_X11_isHere_35 (fuel + 1) τ c (nI p) = S_X11_isHere_35 (fun σ o1 x2 => L_X11_isHere_35 fuel σ o1 x2) τ c (nI p) := rfl
    rw [e0]
    unfold S_X11_isHere_35
    by_cases c1 : p < N
    · rw [h.2.1, if_neg (nI_ge c1 (by omega)), if_pos (pz_inb (by omega) (by omega)), nI_clamp (by omega), h.1 p c1, pm_isLeN ht]
      dsimp only [Option.bind_some]
      cases hl : tk_le t p with
      | false => rw [if_pos (show g_ok1 false = 0 from rfl), tk_w_st (Or.inr hl)]
      | true =>
        rw [if_neg (show ¬ g_ok1 true = 0 from pz_10), tk_w_go c1 hl, nI_1]
        match n with
        | 0 => omega
        | n + 1 => exact pm_h35 (s := s) h hN ht n fuel (p + 1) (by omega) (by omega) (by omega)
    · rw [h.2.1, if_pos (nI_le (by omega) (by omega)), tk_w_st (Or.inl (by omega))]
theorem pm_isHere {τ : sw_St} {t : Nat → Nat} {N b : Nat} {x : Nat × Nat} (h : pm_ps τ t N b) (ht : ∀ i, t i < 256) (hN : N ≤ 1600) (hb : b ≤ N) (hx : x ∈ pm_ck) : ∃ τ', F_X11_isHere τ x.1 = some (g_ok1 (decide (tk_k t N b = x.2)), τ') ∧ pm_pa τ' t N b ∧ pm_sm [] [2] τ τ' := by
  obtain ⟨τ', p1, p2, p3⟩ := pm_look h ht hN hb
  obtain ⟨w1, w2, w3, w4, w5, w6, w7⟩ := pm_ck_sp x hx
  have hs := tk_s_sp t hb
  have hes := tk_e_sp t hb
  refine ⟨τ', ?_, p2, p3⟩
  rw [← tk_here ht w2 w3]
  have hall : ∀ v ∈ pm_wl, ∀ y ∈ v.2, y < 200 := by decide +kernel
  have hall2 := hall _ w1
  generalize tk_wd.getD (x.2 - 256) [] = W at w1 w6 w7 hall2 ⊢
  unfold F_X11_isHere S_X11_isHere_28
  rw [if_pos h.2.2.1, p1]
  dsimp only [Option.bind_some]
  rw [pm_isLeC ht]
  dsimp only [Option.bind_some]
  cases hc : (decide (tk_s t N b < N) && tk_le t (tk_s t N b)) with
  | false =>
    rw [if_pos (show g_ok1 false = 0 from rfl), Bool.false_and, Bool.false_and]
    rfl
  | true =>
    rw [if_neg (show ¬ g_ok1 true = 0 from pz_10), Bool.true_and]
    have hc1 := of_decide_eq_true (pz_ba hc).1
    have hc2 := (pz_ba hc).2
    cases hg : tk_gl t b (tk_s t N b) with
    | true =>
      rw [if_pos ((pm_glue p2 hb hN).mpr hg), Bool.not_true, Bool.false_and]
      rfl
    | false =>
      have ee : tk_e t N b = tk_w (tk_le t) N (tk_s t N b) := by unfold tk_e; rw [if_pos hc1, if_pos hc2]
      rw [if_neg (fun y => by rw [(pm_glue p2 hb hN).mp y] at hg; cases hg), Bool.not_false, Bool.true_and, p2.2.1, pm_h35 (s := 0) p2.1 hN ht N sw_fuel _ hs.2.1 (by omega) (by have := sw_fuel_ge; omega), ← ee]
      unfold S_X11_isHere_61
      rw [if_pos w5, p2.2.1, w6, show nI (tk_e t N b) - nI (tk_s t N b) = nI (tk_e t N b - tk_s t N b) from pk_sub (by omega)]
      by_cases c2 : tk_e t N b - tk_s t N b = W.length
      · rw [if_pos (by rw [c2])]
        have := pm_h76 (c := x.1) (s := tk_s t N b) (e := tk_e t N b) p2.1 hN p2.2.1 ht w4 w5 (W := W) (fun i hi => p2.1.2.2.1 (x.1, W) w1 i hi) hall2 w6 w7 (by omega) (by omega) W.length sw_fuel 0 (by omega) (by have := sw_fuel_ge; omega)
        rw [Nat.add_zero, List.drop_zero] at this
        exact this
      · rw [if_neg (fun y => c2 (by rw [nI_eq (by omega) (by omega)] at y; exact y))]
        have : tk_isW t (tk_s t N b) (tk_e t N b) W = false := by
          cases hw : tk_isW t (tk_s t N b) (tk_e t N b) W
          · rfl
          · have := tk_isW_len hw
            omega
        rw [this]
        rfl

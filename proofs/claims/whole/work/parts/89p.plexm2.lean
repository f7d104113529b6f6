/-! The reference takes tokens. -/
theorem pm_failN {τ : sw_St} {kd pl : Nat} (h : τ.1 0 5 = 0) : ∃ τ', F_X11_fail τ (nI kd) (nI pl) = some ((), τ') ∧ pm_bad τ' kd pl ∧ pm_sm [] [5, 6] τ τ' := by
  refine ⟨_, by unfold F_X11_fail; rw [if_pos h], ⟨by rw [pz_Ik (by decide), pz_Ie rfl rfl], pz_Ie rfl rfl⟩, ((pm_sm.refl _ _ τ).K (by decide) _).K (by decide) _⟩
/-- behind a word or a number -/
theorem pm_en_al {τ : sw_St} {t : Nat → Nat} {e : Nat} (h : τ.1 0 4 = nI e) (hal : tk_al t e = true) : pm_en τ t e := ⟨e + 1, by rw [h, g_m1_s], Nat.le_refl _, fun _ => hal, fun _ => rfl⟩
theorem tk_al_of {t : Nat → Nat} {N b : Nat} (hb : b ≤ N) (hs : tk_s t N b < N) (h : tk_le t (tk_s t N b) = true ∨ tk_di t (tk_s t N b) = true) : tk_al t (tk_e t N b) = true := by
  have hes := tk_e_sp t hb
  unfold tk_al
  rw [decide_eq_true (show 0 < tk_e t N b by omega), Bool.true_and]
  by_cases c : tk_le t (tk_s t N b) = true
  · have ee : tk_e t N b = tk_w (tk_le t) N (tk_s t N b) := by unfold tk_e; rw [if_pos hs, if_pos c]
    have sp := tk_w_sp (tk_le t) N _ (tk_s t N b) (Nat.le_refl _) (by omega)
    rw [sp.2.2.2 (tk_e t N b - 1) (by omega) (by omega), Bool.true_or]
  · have c2 : tk_di t (tk_s t N b) = true := by
      rcases h with h | h
      · exact absurd h c
      · exact h
    have ee : tk_e t N b = tk_w (tk_di t) N (tk_s t N b) := by unfold tk_e; rw [if_pos hs, if_neg c, if_pos c2]
    have sp := tk_w_sp (tk_di t) N _ (tk_s t N b) (Nat.le_refl _) (by omega)
    rw [sp.2.2.2 (tk_e t N b - 1) (by omega) (by omega), Bool.or_true]
theorem pm_takes {τ : sw_St} {t : Nat → Nat} {N b : Nat} {x : Nat × Nat} (h : pm_ps τ t N b) (ht : ∀ i, t i < 256) (hN : N ≤ 1600) (hb : b ≤ N) (hx : x ∈ pm_ck) : (tk_k t N b = x.2 → ∃ τ', F_X11_takes τ x.1 = some (1, τ') ∧ pm_ps τ' t N (tk_e t N b) ∧ pm_sm [] [2, 4] τ τ') ∧ (¬ tk_k t N b = x.2 → ∃ τ', F_X11_takes τ x.1 = some (0, τ') ∧ pm_pa τ' t N b ∧ pm_sm [] [2] τ τ') := by
  obtain ⟨τ1, p1, p2, p3⟩ := pm_isHere h ht hN hb hx
  obtain ⟨w1, w2, w3, w4, w5, w6, w7⟩ := pm_ck_sp x hx
  have hes := tk_e_sp t hb
  unfold F_X11_takes
  rw [p1]
  dsimp only [Option.bind_some]
  constructor
  · intro hk
    have hh := tk_here (N := N) (b := b) ht w2 w3
    rw [decide_eq_true hk] at hh
    obtain ⟨hh1, hh2⟩ := pz_ba hh
    obtain ⟨hh3, hh4⟩ := pz_ba hh1
    obtain ⟨hh5, hh6⟩ := pz_ba hh3
    have hlen := tk_isW_len hh2
    rw [decide_eq_true hk, if_neg (show ¬ g_ok1 true = 0 from pz_10), if_pos w5, p2.2.1, w6, nI_add, hlen]
    have m2 : pm_sm [] [2, 4] τ (sw_uI (sw_uI τ1 0 2 (nI (tk_e t N b))) 0 4 (nI (tk_e t N b))) := ((p3.mono (by decide) (by decide)).K (by decide) _).K (by decide) _
    refine ⟨_, rfl, ⟨h.1.mv m2 (by simp) (by decide), ⟨tk_e t N b, Nat.le_refl _, (tk_s_sp t hes.2.1).1, by rw [pz_Ik (by decide), pz_Ie rfl rfl]⟩, by rw [m2.2.1 5 (by decide)]; exact h.2.2.1, pm_en_al (pz_Ie rfl rfl) (tk_al_of hb (of_decide_eq_true hh5) (Or.inl hh6))⟩, m2⟩
  · intro hk
    rw [decide_eq_false hk, if_pos (show g_ok1 false = 0 from rfl)]
    exact ⟨τ1, rfl, p2, p3⟩
theorem pm_asks {τ : sw_St} {t : Nat → Nat} {N b : Nat} {x : Nat × Nat} (h : pm_ps τ t N b) (ht : ∀ i, t i < 256) (hN : N ≤ 1600) (hb : b ≤ N) (hx : x ∈ pm_ck) : (tk_k t N b = x.2 → ∃ τ', F_X11_asks τ x.1 = some ((), τ') ∧ pm_ps τ' t N (tk_e t N b) ∧ pm_sm [] [2, 4] τ τ') ∧ (¬ tk_k t N b = x.2 → ∃ τ', F_X11_asks τ x.1 = some ((), τ') ∧ pm_bad τ' 1 (tk_s t N b) ∧ pm_sm [] [2, 5, 6] τ τ') := by
  obtain ⟨a1, a2⟩ := pm_takes h ht hN hb hx
  unfold F_X11_asks S_X11_asks_24
  rw [if_pos h.2.2.1]
  constructor
  · intro hk
    obtain ⟨τ1, p1, p2, p3⟩ := a1 hk
    rw [p1]
    dsimp only [Option.bind_some]
    rw [if_neg pz_10]
    exact ⟨τ1, rfl, p2, p3⟩
  · intro hk
    obtain ⟨τ1, p1, p2, p3⟩ := a2 hk
    obtain ⟨τ2, q1, q2, q3⟩ := pm_failN (τ := τ1) (kd := 1) (pl := tk_s t N b) p2.2.2.1
    rw [p1]
    dsimp only [Option.bind_some]
    rw [if_pos rfl, p2.2.1, show F_X11_fail τ1 1 (nI (tk_s t N b)) = _ from q1]
    exact ⟨τ2, rfl, q2, (p3.mono (by decide) (by decide)).trans (q3.mono (by decide) (by decide))⟩
/-- signs -/
def tk_sgn (c : Nat) : Prop := c < 256 ∧ ¬ (97 ≤ c ∧ c ≤ 122) ∧ ¬ (48 ≤ c ∧ c ≤ 57) ∧ c ≠ 10 ∧ c ≠ 32
theorem tk_sg {t : Nat → Nat} {N b c : Nat} (ht : ∀ i, t i < 256) (hc : tk_sgn c) : (tk_k t N b = c ↔ tk_s t N b < N ∧ t (tk_s t N b) = c) ∧ (tk_k t N b = c → tk_e t N b = tk_s t N b + 1) := by
  obtain ⟨c1, c2, c3, c4, c5⟩ := hc
  have h256 := ht (tk_s t N b)
  have hix := tk_ix_le t (tk_s t N b) (tk_e t N b) tk_wd 256 (by decide)
  have key : tk_k t N b = c ↔ tk_s t N b < N ∧ t (tk_s t N b) = c := by
    unfold tk_k
    by_cases d : tk_s t N b < N
    · rw [if_pos d]
      by_cases d1 : tk_le t (tk_s t N b) = true
      · have := of_decide_eq_true d1
        rw [if_pos d1]
        constructor
        · intro y
          split at y <;> omega
        · rintro ⟨-, y⟩
          omega
      · rw [if_neg d1]
        by_cases d2 : tk_di t (tk_s t N b) = true
        · have := of_decide_eq_true d2
          rw [if_pos d2]
          constructor
          · intro y
            split at y <;> omega
          · rintro ⟨-, y⟩
            omega
        · rw [if_neg d2]
          exact ⟨fun y => ⟨d, y⟩, fun y => y.2⟩
    · rw [if_neg d]
      exact ⟨fun y => by omega, fun y => absurd y.1 d⟩
  refine ⟨key, fun y => ?_⟩
  obtain ⟨y1, y2⟩ := key.mp y
  unfold tk_e tk_le tk_di
  rw [if_pos y1, if_neg (by rw [y2]; simpa using fun z => by omega), if_neg (by rw [y2]; simpa using fun z => by omega)]
theorem pm_cIs {t : Nat → Nat} {N b c : Nat} (ht : ∀ i, t i < 256) (hc : tk_sgn c) : tk_c t N b = nI c ↔ tk_k t N b = c := by
  have h256 := ht (tk_s t N b)
  have hc1 := hc.1
  rw [(tk_sg ht hc).1]
  unfold tk_c
  by_cases d : tk_s t N b < N
  · rw [if_pos d, nI_eq (by omega) (by omega)]
    exact ⟨fun y => ⟨d, y⟩, fun y => y.2⟩
  · rw [if_neg d]
    exact ⟨fun y => absurd y.symm (pz_nm1 (by omega)), fun y => absurd y.1 d⟩
theorem tk_al_sg {t : Nat → Nat} {N b c : Nat} (ht : ∀ i, t i < 256) (hc : tk_sgn c) (h : tk_k t N b = c) : tk_al t (tk_e t N b) = false := by
  obtain ⟨h1, h2⟩ := (tk_sg ht hc).1.mp h
  rw [(tk_sg ht hc).2 h]
  unfold tk_al tk_le tk_di
  rw [show tk_s t N b + 1 - 1 = tk_s t N b by omega, h2]
  obtain ⟨c1, c2, c3, c4, c5⟩ := hc
  rw [decide_eq_false c2, decide_eq_false c3]
  simp
/-- one sign on -/
theorem pm_sgOn {τ τ' : sw_St} {t : Nat → Nat} {N b c : Nat} (h : pm_pa τ t N b) (ht : ∀ i, t i < 256) (hb : b ≤ N) (hc : tk_sgn c) (hk : tk_k t N b = c) (m : pm_sm [71, 72] [2, 95, 97, 98] τ τ') (h2 : τ'.1 0 2 = nI (tk_s t N b + 1)) : pm_ps τ' t N (tk_e t N b) := by
  have hes := tk_e_sp t hb
  have hs := tk_s_sp t hb
  have ee := (tk_sg ht hc).2 hk
  obtain ⟨a1, a2, a3, e, e1, e2, e3⟩ := h
  refine ⟨a1.mv m (by decide) (by decide), ⟨tk_e t N b, Nat.le_refl _, (tk_s_sp t hes.2.1).1, by rw [h2, ee]⟩, by rw [m.2.1 5 (by decide)]; exact a3, e, by rw [m.2.1 4 (by decide)]; exact e1, by omega, ?_⟩
  rw [tk_al_sg ht hc hk]
  exact ⟨fun y => by omega, fun y => by cases y⟩
theorem pm_takesSg {τ : sw_St} {t : Nat → Nat} {N b c : Nat} (h : pm_ps τ t N b) (ht : ∀ i, t i < 256) (hN : N ≤ 1600) (hb : b ≤ N) (hc : tk_sgn c) : (tk_k t N b = c → ∃ τ', F_X11_takesSign τ (nI c) = some (1, τ') ∧ pm_ps τ' t N (tk_e t N b) ∧ pm_sm [] [2] τ τ' ∧ τ'.1 0 2 = nI (tk_e t N b)) ∧ (¬ tk_k t N b = c → ∃ τ', F_X11_takesSign τ (nI c) = some (0, τ') ∧ pm_pa τ' t N b ∧ pm_sm [] [2] τ τ') := by
  obtain ⟨τ1, p1, p2, p3⟩ := pm_look h ht hN hb
  unfold F_X11_takesSign S_X11_takesSign_15
  rw [if_pos h.2.2.1, p1]
  dsimp only [Option.bind_some]
  constructor
  · intro hk
    rw [if_pos ((pm_cIs ht hc).mpr hk), p2.2.1, nI_1]
    have m1 : pm_sm [] [2] τ1 (sw_uI τ1 0 2 (nI (tk_s t N b + 1))) := (pm_sm.refl _ _ _).K (by decide) _
    exact ⟨_, rfl, pm_sgOn p2 ht hb hc hk (m1.mono (by decide) (by decide)) (pz_Ie rfl rfl), p3.trans m1, by rw [pz_Ie rfl rfl, (tk_sg ht hc).2 hk]⟩
  · intro hk
    rw [if_neg (fun y => hk ((pm_cIs ht hc).mp y))]
    exact ⟨τ1, rfl, p2, p3⟩
theorem pm_asksSg {τ : sw_St} {t : Nat → Nat} {N b c : Nat} (h : pm_ps τ t N b) (ht : ∀ i, t i < 256) (hN : N ≤ 1600) (hb : b ≤ N) (hc : tk_sgn c) : (tk_k t N b = c → ∃ τ', F_X11_asksSign τ (nI c) = some ((), τ') ∧ pm_ps τ' t N (tk_e t N b) ∧ pm_sm [] [2] τ τ') ∧ (¬ tk_k t N b = c → ∃ τ', F_X11_asksSign τ (nI c) = some ((), τ') ∧ pm_bad τ' 1 (tk_s t N b) ∧ pm_sm [] [2, 5, 6] τ τ') := by
  obtain ⟨a1, a2⟩ := pm_takesSg h ht hN hb hc
  unfold F_X11_asksSign S_X11_asksSign_24
  rw [if_pos h.2.2.1]
  constructor
  · intro hk
    obtain ⟨τ1, p1, p2, p3, p4⟩ := a1 hk
    rw [p1]
    dsimp only [Option.bind_some]
    rw [if_neg pz_10]
    exact ⟨τ1, rfl, p2, p3⟩
  · intro hk
    obtain ⟨τ1, p1, p2, p3⟩ := a2 hk
    obtain ⟨τ2, q1, q2, q3⟩ := pm_failN (τ := τ1) (kd := 1) (pl := tk_s t N b) p2.2.2.1
    rw [p1]
    dsimp only [Option.bind_some]
    rw [if_pos rfl, p2.2.1, show F_X11_fail τ1 1 (nI (tk_s t N b)) = _ from q1]
    exact ⟨τ2, rfl, q2, (p3.mono (by decide) (by decide)).trans (q3.mono (by decide) (by decide))⟩
/-! numbers -/
theorem pm_n49 {t : Nat → Nat} {N s : Nat} {x1 x2 : Int32} (ht : ∀ i, t i < 256) (hN : N ≤ 1600) (hs : s ≤ N) : ∀ (n fuel p a : Nat) (τ : sw_St), pm_tx τ t N → τ.1 0 5 = 0 → τ.1 0 2 = nI p → p + n = tk_w (tk_di t) N s → s ≤ p → p ≤ s + 4 → a < 10 ^ (p - s) → n < fuel →
    (tk_w (tk_di t) N s ≤ s + 4 → ∃ τ', L_X11_number_49 fuel τ x1 x2 (nI s) (nI a) = S_X11_number_129 τ' x1 x2 (nI s) (nI (tk_v t n p a)) ∧ τ'.1 0 2 = nI (tk_w (tk_di t) N s) ∧ pm_sm [] [2] τ τ') ∧ (s + 4 < tk_w (tk_di t) N s → ∃ τ', L_X11_number_49 fuel τ x1 x2 (nI s) (nI a) = some (0, τ') ∧ pm_bad τ' 1 (s + 4) ∧ pm_sm [] [2, 5, 6] τ τ')
  | n, fuel + 1, p, a, τ, h, h5, h2, hp, hsp, hp4, ha, hf => by
    have sp := tk_w_sp (tk_di t) N _ s (Nat.le_refl _) hs
    have e0 : L_X11_number_49 (fuel + 1) τ x1 x2 (nI s) (nI a) = S_X11_number_49 (fun σ x1 x2 x3 x4 => L_X11_number_49 fuel σ x1 x2 x3 x4) τ x1 x2 (nI s) (nI a) := rfl
    rw [e0]
    unfold S_X11_number_49
    match n with
    | 0 =>
      have hpe : p = tk_w (tk_di t) N s := by omega
      refine ⟨fun _ => ⟨τ, ?_, by rw [h2, hpe], pm_sm.refl _ _ _⟩, fun y => by omega⟩
      show _ = S_X11_number_129 τ x1 x2 (nI s) (nI a)
      by_cases c : p < N
      · rw [h.2.1, h2, if_neg (nI_ge c (by omega)), if_pos (pz_inb (by omega) (by omega)), nI_clamp (by omega), h.1 p c, pm_isDiN ht]
        dsimp only [Option.bind_some]
        rw [show tk_di t p = false from by rw [hpe]; exact sp.2.2.1 (by omega), if_pos (show g_ok1 false = 0 from rfl)]
      · rw [h.2.1, h2, if_pos (nI_le (by omega) (by omega))]
    | n + 1 =>
      have hpN : p < N := by omega
      have hdp := sp.2.2.2 p hsp (by omega)
      have hd2 := of_decide_eq_true hdp
      rw [h.2.1, h2, if_neg (nI_ge hpN (by omega)), if_pos (pz_inb (by omega) (by omega)), nI_clamp (by omega), h.1 p hpN, pm_isDiN ht, hdp]
      dsimp only [Option.bind_some]
      rw [if_neg (show ¬ g_ok1 true = 0 from pz_10), h2, show nI p - nI s = nI (p - s) from pk_sub (by omega)]
      by_cases c4 : p - s = 4
      · refine ⟨fun y => by omega, fun _ => ?_⟩
        obtain ⟨τ2, q1, q2, q3⟩ := pm_failN (τ := τ) (kd := 1) (pl := s + 4) h5
        rw [if_pos (show nI (p - s) = 4 from by rw [c4]; rfl), show p = s + 4 by omega, show F_X11_fail τ 1 (nI (s + 4)) = _ from q1]
        exact ⟨τ2, rfl, q2, q3.mono (by decide) (by decide)⟩
      · have m1 : pm_sm [] [2] τ (sw_uI τ 0 2 (nI (p + 1))) := (pm_sm.refl _ _ τ).K (by decide) _
        have hpw : 10 ^ (p + 1 - s) = 10 ^ (p - s) * 10 := by rw [show p + 1 - s = p - s + 1 by omega, Nat.pow_succ]
        have hpl : 10 ^ (p - s) ≤ 10 ^ 4 := Nat.pow_le_pow_right (by omega) (by omega)
        obtain ⟨i1, i2⟩ := pm_n49 (x1 := x1) (x2 := x2) ht hN hs n fuel (p + 1) (10 * a + (t p - 48)) (sw_uI τ 0 2 (nI (p + 1))) (h.mv m1 (by simp) (by decide)) (by rw [pz_Ik (by decide)]; exact h5) (pz_Ie rfl rfl) (by omega) (by omega) (by omega) (by omega) (by omega)
        rw [if_neg (show ¬ nI (p - s) = 4 from fun y => c4 ((nI_eq (b := 4) (by omega) (by omega)).mp y)), if_pos (pz_inb (by omega) (by omega)), nI_clamp (by omega), h.1 p hpN, nI_1, show (10 : Int32) * nI a + nI (t p) - 48 = nI (10 * a + (t p - 48)) from by
          rw [show (10 : Int32) = nI 10 from rfl, pk_mul, nI_add, show (48 : Int32) = nI 48 from rfl, pk_sub (by omega)]
          congr 1
          omega]
        refine ⟨fun y => ?_, fun y => ?_⟩
        · obtain ⟨τ', r1, r2, r3⟩ := i1 y
          exact ⟨τ', r1, r2, m1.trans r3⟩
        · obtain ⟨τ', r1, r2, r3⟩ := i2 y
          exact ⟨τ', r1, r2, (m1.mono (by decide) (by decide)).trans r3⟩
theorem pm_number {τ : sw_St} {t : Nat → Nat} {N b lo lim : Nat} {x2 : Int32} (h : pm_ps τ t N b) (ht : ∀ i, t i < 256) (hN : N ≤ 1600) (hb : b ≤ N) (hlo : lo < 2 ^ 31) (hlim : x2.toInt = (lim : Int) - 1) : ∃ τ', match tk_num t N lo lim b with
    | .ok r => F_X11_number τ (nI lo) x2 = some (nI r.1, τ') ∧ pm_ps τ' t N r.2 ∧ pm_lx τ τ' ∧ τ'.1 0 10 = nI (tk_s t N b)
    | .error e => (∃ v, v < 10000 ∧ F_X11_number τ (nI lo) x2 = some (nI v, τ')) ∧ pm_bad τ' e.1 e.2 ∧ pm_lx τ τ' := by
  obtain ⟨τ1, p1, p2, p3⟩ := pm_look h ht hN hb
  have hs := tk_s_sp t hb
  have hes := tk_e_sp t hb
  have hm1 : pm_lx τ τ1 := p3.mono (by decide) (by decide)
  have no : tk_k t N b ≠ 300 → S_X11_number_30 τ1 = F_X11_number τ (nI lo) x2 → ∃ τ', match tk_num t N lo lim b with
    | .ok r => F_X11_number τ (nI lo) x2 = some (nI r.1, τ') ∧ pm_ps τ' t N r.2 ∧ pm_lx τ τ' ∧ τ'.1 0 10 = nI (tk_s t N b)
    | .error e => (∃ v, v < 10000 ∧ F_X11_number τ (nI lo) x2 = some (nI v, τ')) ∧ pm_bad τ' e.1 e.2 ∧ pm_lx τ τ' := fun hk e30 => by
    obtain ⟨τ2, q1, q2, q3⟩ := pm_failN (τ := τ1) (kd := 1) (pl := tk_s t N b) p2.2.2.1
    refine ⟨τ2, ?_⟩
    unfold tk_num
    rw [if_neg hk]
    (try dsimp only)
    refine ⟨⟨0, by omega, ?_⟩, q2, hm1.trans (q3.mono (by decide) (by decide))⟩
    rw [← e30]
    unfold S_X11_number_30
    rw [p2.2.1, show F_X11_fail τ1 1 (nI (tk_s t N b)) = _ from q1]
    rfl
  have eF : F_X11_number τ (nI lo) x2 = (if g_ok1 (decide (tk_s t N b < N) && tk_di t (tk_s t N b)) = 0 then (S_X11_number_30 τ1) else (if (τ1.1 0 2) = (τ1.1 0 4) then (S_X11_number_30 τ1) else (L_X11_number_49 sw_fuel τ1 (nI lo) x2 (τ1.1 0 2) 0))) := by
    unfold F_X11_number
    rw [if_pos h.2.2.1, p1]
    dsimp only [Option.bind_some]
    rw [pm_isDiC ht]
    rfl
  by_cases hk : tk_k t N b = 300
  · obtain ⟨k1, k2, k3, k4, k5⟩ := tk_300 ht hk
    have eF2 : F_X11_number τ (nI lo) x2 = L_X11_number_49 sw_fuel τ1 (nI lo) x2 (nI (tk_s t N b)) (nI 0) := by
      rw [eF, decide_eq_true k1, k2, if_neg (show ¬ g_ok1 (true && true) = 0 from pz_10), if_neg (fun y => by rw [(pm_glue p2 hb hN).mp y] at k4; cases k4), p2.2.1]
      rfl
    obtain ⟨i1, i2⟩ := pm_n49 (x1 := nI lo) (x2 := x2) ht hN hs.2.1 (tk_e t N b - tk_s t N b) sw_fuel (tk_s t N b) 0 τ1 p2.1 p2.2.2.1 p2.2.1 (by omega) (Nat.le_refl _) (by omega) (Nat.pow_pos (by omega)) (by have := sw_fuel_ge; omega)
    rw [← k3] at i1 i2
    unfold tk_num
    rw [if_pos hk, eF2]
    by_cases c1 : tk_e t N b - tk_s t N b ≤ 4
    · have hdig := tk_w_sp (tk_di t) N _ (tk_s t N b) (Nat.le_refl _) (by omega)
      rw [← k3] at hdig
      have hv := tk_v_lt (t := t) (tk_e t N b - tk_s t N b) (tk_s t N b) 0 1 (fun i h1 h2 => (of_decide_eq_true (hdig.2.2.2 i h1 (by omega))).2) (by omega)
      have hv2 : (10 : Nat) ^ (tk_e t N b - tk_s t N b) ≤ 10 ^ 4 := Nat.pow_le_pow_right (by omega) c1
      have hv3 : tk_v t (tk_e t N b - tk_s t N b) (tk_s t N b) 0 < 10000 := by omega
      obtain ⟨τ2, r1, r2, r3⟩ := i1 (by omega)
      rw [if_pos c1, r1]
      have m2 : pm_lx τ (sw_uI (sw_uI τ2 0 4 (nI (tk_e t N b))) 0 10 (nI (tk_s t N b))) := ((hm1.trans (r3.mono (by decide) (by decide))).K (by decide) _).K (by decide) _
      have b5 : (sw_uI (sw_uI τ2 0 4 (nI (tk_e t N b))) 0 10 (nI (tk_s t N b))).1 0 5 = 0 := by rw [pz_Ik (by decide), pz_Ik (by decide), r3.2.1 5 (by decide)]; exact p2.2.2.1
      generalize hvv : tk_v t (tk_e t N b - tk_s t N b) (tk_s t N b) 0 = vv at hv3
      unfold S_X11_number_129 S_X11_number_164
      rw [r2, pm_isIn, px_wide, px_wide, px_wide, hlim, nI_toInt (by omega), nI_toInt (by omega)]
      dsimp only [Option.bind_some]
      by_cases c2 : lo ≤ vv ∧ vv < lim
      · rw [if_pos c2, if_pos (show (lo : Int) ≤ (vv : Int) ∧ (vv : Int) ≤ (lim : Int) - 1 by omega), if_neg pz_10]
        refine ⟨_, rfl, ⟨(p2.1.mv r3 (by simp) (by decide)).mv (S := []) (K := [4, 10]) (((pm_sm.refl _ _ τ2).K (by decide) _).K (by decide) _) (by simp) (by decide), ⟨tk_e t N b, Nat.le_refl _, (tk_s_sp t hes.2.1).1, by rw [pz_Ik (by decide), pz_Ik (by decide)]; exact r2⟩, b5, pm_en_al (by rw [pz_Ik (by decide), pz_Ie rfl rfl]) (tk_al_of hb k1 (Or.inr k2))⟩, m2, pz_Ie rfl rfl⟩
      · rw [if_neg c2, if_neg (show ¬ ((lo : Int) ≤ (vv : Int) ∧ (vv : Int) ≤ (lim : Int) - 1) by omega), if_pos rfl]
        obtain ⟨τ3, q1, q2, q3⟩ := pm_failN (τ := sw_uI (sw_uI τ2 0 4 (nI (tk_e t N b))) 0 10 (nI (tk_s t N b))) (kd := 2) (pl := tk_s t N b) b5
        rw [show (sw_uI (sw_uI τ2 0 4 (nI (tk_e t N b))) 0 10 (nI (tk_s t N b))).1 0 10 = nI (tk_s t N b) from pz_Ie rfl rfl, show F_X11_fail _ 2 (nI (tk_s t N b)) = _ from q1]
        exact ⟨τ3, ⟨vv, hv3, rfl⟩, q2, m2.trans (q3.mono (by decide) (by decide))⟩
    · obtain ⟨τ2, r1, r2, r3⟩ := i2 (by omega)
      rw [if_neg c1, r1]
      exact ⟨τ2, ⟨0, by omega, rfl⟩, r2, hm1.trans (r3.mono (by decide) (by decide))⟩
  · refine no hk ?_
    rw [eF]
    cases hc : (decide (tk_s t N b < N) && tk_di t (tk_s t N b)) with
    | false => rw [if_pos (show g_ok1 false = 0 from rfl)]
    | true =>
      obtain ⟨hc1, hc2⟩ := pz_ba hc
      have hc1 := of_decide_eq_true hc1
      rw [if_neg (show ¬ g_ok1 true = 0 from pz_10)]
      have hnl : ¬ tk_le t (tk_s t N b) = true := fun y => by
        have y1 := of_decide_eq_true y
        have y2 := of_decide_eq_true hc2
        omega
      have hg : tk_gl t b (tk_s t N b) = true := by
        cases e : tk_gl t b (tk_s t N b)
        · exfalso
          apply hk
          unfold tk_k
          rw [if_pos hc1, if_neg hnl, if_pos hc2, e, if_neg (by decide)]
        · rfl
      rw [if_pos ((pm_glue p2 hb hN).mpr hg)]

/-! The class reads tokens. -/
def px_af (σ σ' : sw_St) : Prop := pz_sm [2] σ σ' ∧ σ'.1 2 1 = σ.1 2 1 ∧ σ'.1 2 5 = σ.1 2 5 ∧ σ'.1 2 6 = σ.1 2 6 ∧ σ'.2.2 2 = σ.2.2 2
theorem px_af.refl (σ : sw_St) : px_af σ σ := ⟨pz_sm.refl _ _, rfl, rfl, rfl, rfl⟩
theorem px_af.trans {σ σ1 σ2 : sw_St} (h : px_af σ σ1) (g : px_af σ1 σ2) : px_af σ σ2 := ⟨h.1.trans g.1, g.2.1.trans h.2.1, g.2.2.1.trans h.2.2.1, g.2.2.2.1.trans h.2.2.2.1, g.2.2.2.2.trans h.2.2.2.2⟩
theorem px_af.wr (σ : sw_St) {k : Nat} (v : Int32) (h : k = 2 ∨ k = 3 ∨ k = 4) : px_af σ (sw_uI σ 2 k v) := ⟨(pz_sm.refl _ σ).I (by decide) _ _, by rw [pz_Ik (by omega)], by rw [pz_Ik (by omega)], by rw [pz_Ik (by omega)], rfl⟩
theorem px_tx.mv {σ σ' : sw_St} {t : Nat → Nat} {N : Nat} (h : px_tx σ t N) (m : px_af σ σ') : px_tx σ' t N := ⟨by rw [m.2.2.2.2]; exact h.1, fun i hi => by rw [m.1.r (by decide)]; exact h.2.1 i hi, by rw [m.2.1]; exact h.2.2⟩
def px_rs (σ : sw_St) (t : Nat → Nat) (N b : Nat) : Prop := px_tx σ t N ∧ σ.1 2 2 = nI (tk_k t N b) ∧ σ.1 2 3 = nI (tk_s t N b) ∧ σ.1 2 4 = nI (tk_e t N b)
theorem px_a10 {t : Nat → Nat} {N : Nat} {x1 : Int32} (ht : ∀ i, t i < 256) (hN : N ≤ 1600) : ∀ (n fuel p : Nat) (σ : sw_St), px_tx σ t N → σ.1 2 3 = nI p → p ≤ N → N - p ≤ n → n < fuel →
    ∃ σ', L_X6_advance_10 fuel σ x1 = S_X6_advance_62 σ' x1 ∧ px_af σ σ' ∧ σ'.1 2 3 = nI (tk_w (tk_bl t) N p)
  | n, fuel + 1, p, σ, h, h3, hp, hn, hf => by
    have e10 : L_X6_advance_10 (fuel + 1) σ x1 = S_X6_advance_10 (fun σ x1 => L_X6_advance_10 fuel σ x1) σ x1 := rfl
    rw [e10]
    by_cases c : p < N
    · have htp := ht p
      have go : tk_bl t p = true → ∃ σ', L_X6_advance_10 fuel (sw_uI σ 2 3 (nI (p + 1))) x1 = S_X6_advance_62 σ' x1 ∧ px_af σ σ' ∧ σ'.1 2 3 = nI (tk_w (tk_bl t) N p) := fun hb => by
        match n with
        | 0 => omega
        | n + 1 =>
          have m1 := px_af.wr σ (k := 3) (nI (p + 1)) (by omega)
          obtain ⟨σ', q1, q2, q3⟩ := px_a10 (x1 := x1) ht hN n fuel (p + 1) _ (h.mv m1) (pz_Ie rfl rfl) (by omega) (by omega) (by omega)
          exact ⟨σ', q1, m1.trans q2, by rw [q3, tk_w_go c hb]⟩
      unfold S_X6_advance_10 S_X6_advance_49
      rw [h.2.2, h3, if_neg (nI_ge c (by omega)), h.1]
      dsimp only [Option.bind_some]
      rw [if_pos sw_c1.1, sw_c1.2.2, if_pos (pz_inb (by omega) (by omega)), nI_clamp (by omega), h.2.1 p c, nI_1]
      by_cases c1 : t p = 10
      · rw [if_pos (show sB (t p) = 10 from (sB_c (c := 10) htp (by omega)).mpr c1)]
        exact go (decide_eq_true (Or.inl c1))
      · rw [if_neg (show ¬ sB (t p) = 10 from fun y => c1 ((sB_c (c := 10) htp (by omega)).mp y)), if_pos sw_c1.1, if_pos (pz_inb (by omega) (by omega))]
        by_cases c2 : t p = 32
        · rw [if_pos (show sB (t p) = 32 from (sB_c (c := 32) htp (by omega)).mpr c2)]
          exact go (decide_eq_true (Or.inr c2))
        · rw [if_neg (show ¬ sB (t p) = 32 from fun y => c2 ((sB_c (c := 32) htp (by omega)).mp y))]
          refine ⟨σ, rfl, px_af.refl _, ?_⟩
          rw [h3, tk_w_st (Or.inr (decide_eq_false (by omega)))]
    · refine ⟨σ, ?_, px_af.refl _, by rw [h3, tk_w_st (Or.inl (by omega))]⟩
      unfold S_X6_advance_10
      rw [h.2.2, h3, if_pos (nI_le (by omega) (by omega))]
theorem px_a100 {t : Nat → Nat} {N : Nat} {x1 : Int32} (ht : ∀ i, t i < 256) (hN : N ≤ 1600) : ∀ (n fuel p : Nat) (σ : sw_St), px_tx σ t N → σ.1 2 4 = nI p → p ≤ N → N - p ≤ n → n < fuel →
    ∃ σ', L_X6_advance_100 fuel σ x1 = S_X6_advance_135 σ' x1 ∧ px_af σ σ' ∧ σ'.1 2 4 = nI (tk_w (tk_le t) N p) ∧ σ'.1 2 3 = σ.1 2 3
  | n, fuel + 1, p, σ, h, h4, hp, hn, hf => by
    have e0 : L_X6_advance_100 (fuel + 1) σ x1 = S_X6_advance_100 (fun σ x1 => L_X6_advance_100 fuel σ x1) σ x1 := rfl
    rw [e0]
    by_cases c : p < N
    · unfold S_X6_advance_100
      rw [h.2.2, h4, if_neg (nI_ge c (by omega)), px_isLe h ht hN c]
      dsimp only [Option.bind_some]
      rw [h4, nI_1]
      cases hb : tk_le t p with
      | false =>
        rw [if_pos (show g_ok1 false = 0 from rfl)]
        exact ⟨σ, rfl, px_af.refl _, by rw [h4, tk_w_st (Or.inr hb)], rfl⟩
      | true =>
        rw [if_neg (show ¬ g_ok1 true = 0 from pz_10)]
        match n with
        | 0 => omega
        | n + 1 =>
          have m1 := px_af.wr σ (k := 4) (nI (p + 1)) (by omega)
          obtain ⟨σ', q1, q2, q3, q4⟩ := px_a100 (x1 := x1) ht hN n fuel (p + 1) _ (h.mv m1) (pz_Ie rfl rfl) (by omega) (by omega) (by omega)
          exact ⟨σ', q1, m1.trans q2, by rw [q3, tk_w_go c hb], by rw [q4, pz_Ik (by decide)]⟩
    · refine ⟨σ, ?_, px_af.refl _, by rw [h4, tk_w_st (Or.inl (by omega))], rfl⟩
      unfold S_X6_advance_100
      rw [h.2.2, h4, if_pos (nI_le (by omega) (by omega))]
theorem px_a157 {t : Nat → Nat} {N : Nat} {x1 : Int32} (ht : ∀ i, t i < 256) (hN : N ≤ 1600) : ∀ (n fuel p : Nat) (σ : sw_St), px_tx σ t N → σ.1 2 4 = nI p → p ≤ N → N - p ≤ n → n < fuel →
    ∃ σ', L_X6_advance_157 fuel σ x1 = S_X6_advance_192 σ' x1 ∧ px_af σ σ' ∧ σ'.1 2 4 = nI (tk_w (tk_di t) N p) ∧ σ'.1 2 3 = σ.1 2 3
  | n, fuel + 1, p, σ, h, h4, hp, hn, hf => by
    have e0 : L_X6_advance_157 (fuel + 1) σ x1 = S_X6_advance_157 (fun σ x1 => L_X6_advance_157 fuel σ x1) σ x1 := rfl
    rw [e0]
    by_cases c : p < N
    · unfold S_X6_advance_157
      rw [h.2.2, h4, if_neg (nI_ge c (by omega)), px_isDi h ht hN c]
      dsimp only [Option.bind_some]
      rw [h4, nI_1]
      cases hb : tk_di t p with
      | false =>
        rw [if_pos (show g_ok1 false = 0 from rfl)]
        exact ⟨σ, rfl, px_af.refl _, by rw [h4, tk_w_st (Or.inr hb)], rfl⟩
      | true =>
        rw [if_neg (show ¬ g_ok1 true = 0 from pz_10)]
        match n with
        | 0 => omega
        | n + 1 =>
          have m1 := px_af.wr σ (k := 4) (nI (p + 1)) (by omega)
          obtain ⟨σ', q1, q2, q3, q4⟩ := px_a157 (x1 := x1) ht hN n fuel (p + 1) _ (h.mv m1) (pz_Ie rfl rfl) (by omega) (by omega) (by omega)
          exact ⟨σ', q1, m1.trans q2, by rw [q3, tk_w_go c hb], by rw [q4, pz_Ik (by decide)]⟩
    · refine ⟨σ, ?_, px_af.refl _, by rw [h4, tk_w_st (Or.inl (by omega))], rfl⟩
      unfold S_X6_advance_157
      rw [h.2.2, h4, if_pos (nI_le (by omega) (by omega))]
/-- words and numbers side by side -/
theorem px_a230 {σ : sw_St} {t : Nat → Nat} {N b s kd : Nat} (h : px_tx σ t N) (ht : ∀ i, t i < 256) (hN : N ≤ 1600) (hb : b ≤ N) (hs : s ≤ N) (h3 : σ.1 2 3 = nI s) (h2 : σ.1 2 2 = nI kd) : ∃ σ', S_X6_advance_230 σ (nI b) = some ((), σ') ∧ px_af σ σ' ∧ σ'.1 2 2 = nI (if tk_gl t b s = true then 302 else kd) ∧ σ'.1 2 3 = nI s ∧ σ'.1 2 4 = σ.1 2 4 := by
  have m1 := px_af.wr σ (k := 2) (302 : Int32) (by omega)
  have no : tk_gl t b s = false → ∃ σ', some ((), σ) = some ((), σ') ∧ px_af σ σ' ∧ σ'.1 2 2 = nI (if tk_gl t b s = true then 302 else kd) ∧ σ'.1 2 3 = nI s ∧ σ'.1 2 4 = σ.1 2 4 := fun y => ⟨σ, rfl, px_af.refl _, by rw [h2, y, if_neg (by decide)], h3, rfl⟩
  have ys : tk_gl t b s = true → ∃ σ', some ((), sw_uI σ 2 2 302) = some ((), σ') ∧ px_af σ σ' ∧ σ'.1 2 2 = nI (if tk_gl t b s = true then 302 else kd) ∧ σ'.1 2 3 = nI s ∧ σ'.1 2 4 = σ.1 2 4 := fun y => ⟨_, rfl, m1, by rw [pz_Ie rfl rfl, y, if_pos rfl]; rfl, by rw [pz_Ik (by decide)]; exact h3, by rw [pz_Ik (by decide)]⟩
  unfold S_X6_advance_230 S_X6_advance_271 S_X6_advance_278
  rw [h3]
  by_cases c1 : s = b
  · rw [if_pos (by rw [c1])]
    by_cases c2 : 0 < s
    · rw [if_neg (nI_nle c2 (by omega)), show nI s - 1 = nI (s - 1) from pk_sub (b := 1) (by omega), px_isLe h ht hN (by omega)]
      dsimp only [Option.bind_some]
      cases hl : tk_le t (s - 1) with
      | true =>
        rw [if_neg (show ¬ g_ok1 true = 0 from pz_10)]
        exact ys (by unfold tk_gl; rw [decide_eq_true c1, decide_eq_true c2, hl]; rfl)
      | false =>
        rw [if_pos (show g_ok1 false = 0 from rfl), h3, show nI s - 1 = nI (s - 1) from pk_sub (b := 1) (by omega), px_isDi h ht hN (by omega)]
        dsimp only [Option.bind_some]
        cases hd : tk_di t (s - 1) with
        | true =>
          rw [if_neg (show ¬ g_ok1 true = 0 from pz_10)]
          exact ys (by unfold tk_gl; rw [decide_eq_true c1, decide_eq_true c2, hl, hd]; rfl)
        | false =>
          rw [if_pos (show g_ok1 false = 0 from rfl)]
          exact no (by unfold tk_gl; rw [hl, hd]; simp)
    · rw [if_pos (show nI s ≤ 0 from nI_le (b := 0) (by omega) (by omega))]
      exact no (by unfold tk_gl; rw [decide_eq_false c2]; simp)
  · rw [if_neg (fun y => c1 (by rw [nI_eq (by omega) (by omega)] at y; exact y))]
    exact no (by unfold tk_gl; rw [decide_eq_false c1]; rfl)
theorem px_adv {σ : sw_St} {t : Nat → Nat} {N b : Nat} (h : px_tx σ t N) (ht : ∀ i, t i < 256) (hN : N ≤ 1600) (hb : b ≤ N) (h4 : σ.1 2 4 = nI b) : ∃ σ', F_X6_advance σ = some ((), σ') ∧ px_rs σ' t N b ∧ px_af σ σ' := by
  have hfu := sw_fuel_ge
  have m0 := px_af.wr σ (k := 3) (nI b) (by omega)
  obtain ⟨σ1, p1, p2, p3⟩ := px_a10 (x1 := nI b) ht hN N sw_fuel b _ (h.mv m0) (pz_Ie rfl rfl) hb (by omega) (by omega)
  have p3 : σ1.1 2 3 = nI (tk_s t N b) := p3
  have hs := tk_s_sp t hb
  have m1 := m0.trans p2
  have e0 : F_X6_advance σ = S_X6_advance_62 σ1 (nI b) := by
    unfold F_X6_advance
    rw [h4]
    exact p1
  rw [e0]
  have h1 := h.mv m1
  have m2 := px_af.wr σ1 (k := 4) (nI (tk_s t N b)) (by omega)
  have h2 := h1.mv m2
  have m12 := m1.trans m2
  have k3 : (sw_uI σ1 2 4 (nI (tk_s t N b))).1 2 3 = nI (tk_s t N b) := by rw [pz_Ik (by decide)]; exact p3
  unfold S_X6_advance_62
  rw [h1.2.2, p3]
  by_cases c : tk_s t N b < N
  · rw [if_pos (nI_lt c (by omega))]
    unfold S_X6_advance_89
    rw [k3, px_isLe h2 ht hN c]
    dsimp only [Option.bind_some]
    cases hl : tk_le t (tk_s t N b) with
    | true =>
      rw [if_neg (show ¬ g_ok1 true = 0 from pz_10)]
      obtain ⟨σ3, q1, q2, q3, q4⟩ := px_a100 (x1 := nI b) ht hN N sw_fuel (tk_s t N b) _ h2 (pz_Ie rfl rfl) (by omega) (by omega) (by omega)
      have h3 := h2.mv q2
      have ee : tk_e t N b = tk_w (tk_le t) N (tk_s t N b) := by unfold tk_e; rw [if_pos c, if_pos hl]
      have hes := tk_e_sp t hb
      have q4' : σ3.1 2 3 = nI (tk_s t N b) := by rw [q4]; exact k3
      have q3' : σ3.1 2 4 = nI (tk_e t N b) := by rw [q3, ee]
      have ew := px_wkind h3 ht hN hes.2.1 hs.2.1 q4' q3'
      have m3 := px_af.wr σ3 (k := 2) (nI (tk_ix t (tk_s t N b) (tk_e t N b) tk_wd 256)) (by omega)
      obtain ⟨σ4, r1, r2, r3, r4, r5⟩ := px_a230 (h3.mv m3) ht hN hb hs.2.1 (by rw [pz_Ik (by decide)]; exact q4') (pz_Ie rfl rfl)
      refine ⟨σ4, ?_, ⟨((h3.mv m3).mv r2), ?_, r4, by rw [r5, pz_Ik (by decide)]; exact q3'⟩, ((m12.trans q2).trans m3).trans r2⟩
      · rw [q1]
        unfold S_X6_advance_135
        rw [ew]
        dsimp only [Option.bind_some]
        exact r1
      · rw [r3]
        unfold tk_k
        rw [if_pos c, if_pos hl]
    | false =>
      rw [if_pos (show g_ok1 false = 0 from rfl), k3, px_isDi h2 ht hN c]
      dsimp only [Option.bind_some]
      cases hd : tk_di t (tk_s t N b) with
      | true =>
        rw [if_neg (show ¬ g_ok1 true = 0 from pz_10)]
        obtain ⟨σ3, q1, q2, q3, q4⟩ := px_a157 (x1 := nI b) ht hN N sw_fuel (tk_s t N b) _ h2 (pz_Ie rfl rfl) (by omega) (by omega) (by omega)
        have h3 := h2.mv q2
        have ee : tk_e t N b = tk_w (tk_di t) N (tk_s t N b) := by unfold tk_e; rw [if_pos c, if_neg (by rw [hl]; decide), if_pos hd]
        have q4' : σ3.1 2 3 = nI (tk_s t N b) := by rw [q4]; exact k3
        have m3 := px_af.wr σ3 (k := 2) (nI 300) (by omega)
        obtain ⟨σ4, r1, r2, r3, r4, r5⟩ := px_a230 (h3.mv m3) ht hN hb hs.2.1 (by rw [pz_Ik (by decide)]; exact q4') (pz_Ie rfl rfl)
        refine ⟨σ4, ?_, ⟨((h3.mv m3).mv r2), ?_, r4, by rw [r5, pz_Ik (by decide), q3, ee]⟩, ((m12.trans q2).trans m3).trans r2⟩
        · rw [q1]
          unfold S_X6_advance_192
          exact r1
        · rw [r3]
          unfold tk_k
          rw [if_pos c, if_neg (show ¬ tk_le t (tk_s t N b) = true from by rw [hl]; decide), if_pos hd]
      | false =>
        rw [if_pos (show g_ok1 false = 0 from rfl), h2.1]
        dsimp only [Option.bind_some]
        rw [if_pos sw_c1.1, sw_c1.2.2, k3, if_pos (pz_inb (by omega) (by omega)), nI_clamp (by omega), pz_Ie rfl rfl, nI_1]
        have m3 := px_af.wr (sw_uI σ1 2 4 (nI (tk_s t N b))) (k := 4) (nI (tk_s t N b + 1)) (by omega)
        have hb1 : (sw_uI (sw_uI σ1 2 4 (nI (tk_s t N b))) 2 4 (nI (tk_s t N b + 1))).1 1 (tk_s t N b) = sB (t (tk_s t N b)) := (h2.mv m3).2.1 _ c
        rw [hb1, sB_255 (ht _)]
        have m4 := px_af.wr (sw_uI (sw_uI σ1 2 4 (nI (tk_s t N b))) 2 4 (nI (tk_s t N b + 1))) (k := 2) (nI (t (tk_s t N b))) (by omega)
        refine ⟨_, rfl, ⟨(h2.mv m3).mv m4, ?_, ?_, ?_⟩, (m12.trans m3).trans m4⟩
        · rw [pz_Ie rfl rfl]
          unfold tk_k
          rw [if_pos c, if_neg (by rw [hl]; decide), if_neg (by rw [hd]; decide)]
        · rw [pz_Ik (by decide), pz_Ik (by decide)]
          exact k3
        · rw [pz_Ik (by decide), pz_Ie rfl rfl]
          unfold tk_e
          rw [if_pos c, if_neg (by rw [hl]; decide), if_neg (by rw [hd]; decide)]
  · rw [if_neg (nI_nlt (by omega) (by omega))]
    unfold S_X6_advance_81
    have m3 := px_af.wr (sw_uI σ1 2 4 (nI (tk_s t N b))) (k := 2) (nI 301) (by omega)
    refine ⟨_, rfl, ⟨h2.mv m3, ?_, by rw [pz_Ik (by decide)]; exact k3, ?_⟩, m12.trans m3⟩
    · rw [pz_Ie rfl rfl]
      unfold tk_k
      rw [if_neg c]
      rfl
    · rw [pz_Ik (by decide), pz_Ie rfl rfl]
      unfold tk_e
      rw [if_neg c]
/-- a fault is told -/
def px_ff (σ σ' : sw_St) (kd pl : Nat) : Prop := pz_sm [2] σ σ' ∧ σ'.1 2 5 = nI kd ∧ σ'.1 2 6 = nI pl ∧ σ'.2.2 2 = σ.2.2 2
theorem px_fail {σ : sw_St} {kd pl : Nat} : ∃ σ', F_X6_fail σ (nI kd) (nI pl) = some (0, σ') ∧ px_ff σ σ' kd pl :=
  ⟨_, rfl, ((pz_sm.refl _ σ).I (by decide) _ _).I (by decide) _ _, by rw [pz_Ik (by decide), pz_Ie rfl rfl], pz_Ie rfl rfl, rfl⟩
theorem px_expect {σ : sw_St} {t : Nat → Nat} {N b kd : Nat} (h : px_rs σ t N b) (ht : ∀ i, t i < 256) (hN : N ≤ 1600) (hb : b ≤ N) (hk : kd ≤ 302) : ∃ σ', (tk_k t N b = kd → F_X6_expect σ (nI kd) = some (1, σ') ∧ px_rs σ' t N (tk_e t N b) ∧ px_af σ σ') ∧ (¬ tk_k t N b = kd → F_X6_expect σ (nI kd) = some (0, σ') ∧ px_ff σ σ' 1 (tk_s t N b)) := by
  have hkl := tk_k_lt ht N b
  unfold F_X6_expect
  rw [h.2.1]
  by_cases c : tk_k t N b = kd
  · obtain ⟨σ', p1, p2, p3⟩ := px_adv h.1 ht hN (tk_e_sp t hb).2.1 h.2.2.2
    refine ⟨σ', fun _ => ⟨?_, p2, p3⟩, fun y => absurd c y⟩
    rw [if_pos (by rw [c]), p1]
    rfl
  · obtain ⟨σ', p1, p2⟩ := px_fail (σ := σ) (kd := 1) (pl := tk_s t N b)
    refine ⟨σ', fun y => absurd y c, fun _ => ⟨?_, p2⟩⟩
    rw [if_neg (fun y => c (by rw [nI_eq (by omega) (by omega)] at y; exact y)), h.2.2.1, show F_X6_fail σ 1 (nI (tk_s t N b)) = _ from p1]
    dsimp only [Option.bind_some]
    rw [if_pos (Or.inl rfl)]
/-- the number at the token -/
def tk_v (t : Nat → Nat) : Nat → Nat → Nat → Nat
  | 0, _, a => a
  | n + 1, p, a => tk_v t n (p + 1) (10 * a + (t p - 48))
def tk_num (t : Nat → Nat) (N lo lim b : Nat) : Except (Nat × Nat) (Nat × Nat) := if tk_k t N b = 300 then (if tk_e t N b - tk_s t N b ≤ 4 then (if lo ≤ tk_v t (tk_e t N b - tk_s t N b) (tk_s t N b) 0 ∧ tk_v t (tk_e t N b - tk_s t N b) (tk_s t N b) 0 < lim then .ok (tk_v t (tk_e t N b - tk_s t N b) (tk_s t N b) 0, tk_e t N b) else .error (2, tk_s t N b)) else .error (1, tk_s t N b + 4)) else .error (1, tk_s t N b)
theorem tk_300 {t : Nat → Nat} {N b : Nat} (ht : ∀ i, t i < 256) (h : tk_k t N b = 300) : tk_s t N b < N ∧ tk_di t (tk_s t N b) = true ∧ tk_e t N b = tk_w (tk_di t) N (tk_s t N b) ∧ tk_gl t b (tk_s t N b) = false ∧ tk_le t (tk_s t N b) = false := by
  have hix := tk_ix_le t (tk_s t N b) (tk_e t N b) tk_wd 256 (by decide)
  have h256 := ht (tk_s t N b)
  unfold tk_k at h
  by_cases c : tk_s t N b < N
  · rw [if_pos c] at h
    by_cases c1 : tk_le t (tk_s t N b) = true
    · rw [if_pos c1] at h
      split at h <;> omega
    · rw [if_neg c1] at h
      by_cases c2 : tk_di t (tk_s t N b) = true
      · rw [if_pos c2] at h
        refine ⟨c, c2, by unfold tk_e; rw [if_pos c, if_neg c1, if_pos c2], ?_, by simpa using c1⟩
        cases e : tk_gl t b (tk_s t N b)
        · rfl
        · rw [e, if_pos rfl] at h
          omega
      · rw [if_neg c2] at h
        omega
  · rw [if_neg c] at h
    omega
theorem tk_v_lt {t : Nat → Nat} : ∀ (n p a M : Nat), (∀ i, p ≤ i → i < p + n → t i ≤ 57) → a < M → tk_v t n p a < M * 10 ^ n
  | 0, p, a, M, h, ha => by
    show a < M * 1
    omega
  | n + 1, p, a, M, h, ha => by
    have h1 := h p (by omega) (by omega)
    have := tk_v_lt n (p + 1) (10 * a + (t p - 48)) (10 * M) (fun i h2 h3 => h i (by omega) (by omega)) (by omega)
    rw [Nat.pow_succ]
    show tk_v t n (p + 1) (10 * a + (t p - 48)) < _
    rw [show M * (10 ^ n * 10) = 10 * M * 10 ^ n by rw [Nat.mul_comm (10 ^ n) 10, ← Nat.mul_assoc, Nat.mul_comm M 10]]
    exact this
theorem px_tnl {σ : sw_St} {t : Nat → Nat} {N e : Nat} {x1 x2 : Int32} (h : px_tx σ t N) (hN : N ≤ 1600) (h4 : σ.1 2 4 = nI e) (he : e ≤ N) : ∀ (n fuel p a : Nat), p + n = e → n < fuel → n ≤ 4 → a < 10 ^ (4 - n) → (∀ i, p ≤ i → i < e → 48 ≤ t i ∧ t i ≤ 57) → L_X6_takeNumber_57 fuel σ x1 x2 (nI a) (nI p) = (if nI (tk_v t n p a) < x1 then S_X6_takeNumber_98 σ else (if nI (tk_v t n p a) ≤ x2 then ((F_X6_advance σ).bind fun q1 => some (nI (tk_v t n p a), q1.2)) else (S_X6_takeNumber_98 σ)))
  | 0, fuel + 1, p, a, hp, hf, hn, ha, hd => by
    show S_X6_takeNumber_57 _ σ x1 x2 (nI a) (nI p) = _
    unfold S_X6_takeNumber_57
    rw [h4, if_pos (nI_le (by omega) (by omega))]
    rfl
  | n + 1, fuel + 1, p, a, hp, hf, hn, ha, hd => by
    have hdp := hd p (by omega) (by omega)
    have hpw : 10 ^ (4 - n) = 10 ^ (4 - (n + 1)) * 10 := by
      rw [← Nat.pow_succ]
      congr 1
      omega
    show S_X6_takeNumber_57 _ σ x1 x2 (nI a) (nI p) = _
    unfold S_X6_takeNumber_57
    rw [h4, if_neg (nI_ge (by omega) (by omega)), h.1]
    dsimp only [Option.bind_some]
    rw [if_pos sw_c1.1, sw_c1.2.2, if_pos (pz_inb (by omega) (by omega)), nI_clamp (by omega), h.2.1 p (by omega), show sB (t p) = nI (t p) from (sB_c (by omega) (by omega)).mpr rfl, show nI a * 10 + nI (t p) - 48 = nI (10 * a + (t p - 48)) from by
      rw [show (10 : Int32) = nI 10 from rfl, pk_mul, nI_add, show (48 : Int32) = nI 48 from rfl, pk_sub (by omega)]
      congr 1
      omega, nI_1]
    exact px_tnl h hN h4 he n fuel (p + 1) _ (by omega) (by omega) (by omega) (by omega) (fun i h1 h2 => hd i (by omega) h2)
theorem px_tnum {σ : sw_St} {t : Nat → Nat} {N b lo lim : Nat} {x2 : Int32} (h : px_rs σ t N b) (ht : ∀ i, t i < 256) (hN : N ≤ 1600) (hb : b ≤ N) (hlo : lo < 2 ^ 31) (hlim : x2.toInt = (lim : Int) - 1) : ∃ σ', match tk_num t N lo lim b with
    | .ok r => F_X6_takeNumber σ (nI lo) x2 = some (nI r.1, σ') ∧ px_rs σ' t N r.2 ∧ px_af σ σ' ∧ r.1 < 10000 ∧ r.2 ≤ N ∧ b < r.2
    | .error e => F_X6_takeNumber σ (nI lo) x2 = some (-1, σ') ∧ px_ff σ σ' e.1 e.2 := by
  have hkl := tk_k_lt ht N b
  have hes := tk_e_sp t hb
  have hss := tk_s_sp t hb
  unfold tk_num F_X6_takeNumber
  rw [h.2.1, h.2.2.1, h.2.2.2]
  by_cases c : tk_k t N b = 300
  · obtain ⟨k1, k2, k3, k4, k5⟩ := tk_300 ht c
    have hdig := tk_w_sp (tk_di t) N _ (tk_s t N b) (Nat.le_refl _) (by omega)
    rw [← k3] at hdig
    rw [if_pos c, if_pos (show nI (tk_k t N b) = 300 from by rw [c]; rfl), show nI (tk_e t N b) - nI (tk_s t N b) = nI (tk_e t N b - tk_s t N b) from pk_sub (by omega)]
    by_cases c1 : tk_e t N b - tk_s t N b ≤ 4
    · have hv := tk_v_lt (t := t) (tk_e t N b - tk_s t N b) (tk_s t N b) 0 1 (fun i h1 h2 => (of_decide_eq_true (hdig.2.2.2 i h1 (by omega))).2) (by omega)
      have hv2 : (10 : Nat) ^ (tk_e t N b - tk_s t N b) ≤ 10 ^ 4 := Nat.pow_le_pow_right (by omega) c1
      have hv3 : tk_v t (tk_e t N b - tk_s t N b) (tk_s t N b) 0 < 10000 := by omega
      have e57 := px_tnl (x1 := nI lo) (x2 := x2) h.1 hN h.2.2.2 hes.2.1 (tk_e t N b - tk_s t N b) sw_fuel (tk_s t N b) 0 (by omega) (by have := sw_fuel_ge; omega) c1 (Nat.pow_pos (by omega)) (fun i h1 h2 => of_decide_eq_true (hdig.2.2.2 i h1 h2))
      rw [if_pos c1, if_pos (show nI (tk_e t N b - tk_s t N b) ≤ 4 from nI_le (b := 4) c1 (by omega)), show L_X6_takeNumber_57 sw_fuel σ (nI lo) x2 0 (nI (tk_s t N b)) = _ from e57]
      have e98 : ∃ σ', S_X6_takeNumber_98 σ = some (-1, σ') ∧ px_ff σ σ' 2 (tk_s t N b) := by
        obtain ⟨σ', p1, p2⟩ := px_fail (σ := σ) (kd := 2) (pl := tk_s t N b)
        refine ⟨σ', ?_, p2⟩
        unfold S_X6_takeNumber_98
        rw [h.2.2.1, show F_X6_fail σ 2 (nI (tk_s t N b)) = _ from p1]
        rfl
      by_cases c2 : lo ≤ tk_v t (tk_e t N b - tk_s t N b) (tk_s t N b) 0 ∧ tk_v t (tk_e t N b - tk_s t N b) (tk_s t N b) 0 < lim
      · obtain ⟨σ', p1, p2, p3⟩ := px_adv h.1 ht hN hes.2.1 h.2.2.2
        rw [if_pos c2, if_neg (nI_nlt c2.1 (by omega)), if_pos (by rw [fa_le, hlim, nI_toInt (by omega)]; omega), p1]
        exact ⟨σ', rfl, p2, p3, hv3, hes.2.1, by omega⟩
      · rw [if_neg c2]
        obtain ⟨σ', p1, p2⟩ := e98
        refine ⟨σ', ?_, p2⟩
        by_cases c3 : tk_v t (tk_e t N b - tk_s t N b) (tk_s t N b) 0 < lo
        · rw [if_pos (nI_lt c3 hlo), p1]
        · rw [if_neg (nI_nlt (by omega) (by omega)), if_neg (by rw [fa_le, hlim, nI_toInt (by omega)]; omega), p1]
    · obtain ⟨σ', p1, p2⟩ := px_fail (σ := σ) (kd := 1) (pl := tk_s t N b + 4)
      rw [if_neg c1, if_neg (show ¬ nI (tk_e t N b - tk_s t N b) ≤ 4 from nI_ge (a := 4) (by omega) (by omega)), show nI (tk_s t N b) + 4 = nI (tk_s t N b + 4) from nI_add _ 4, show F_X6_fail σ 1 (nI (tk_s t N b + 4)) = _ from p1]
      exact ⟨σ', rfl, p2⟩
  · obtain ⟨σ', p1, p2⟩ := px_fail (σ := σ) (kd := 1) (pl := tk_s t N b)
    rw [if_neg c, if_neg (show ¬ nI (tk_k t N b) = 300 from fun y => c ((nI_eq (b := 300) (by omega) (by omega)).mp y)), show F_X6_fail σ 1 (nI (tk_s t N b)) = _ from p1]
    exact ⟨σ', rfl, p2⟩

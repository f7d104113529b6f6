/-! All statements of an upland: the class. -/
theorem px_ust {t : Nat → Nat} {N w b : Nat} {u : g_U} (hu : pu_ok u) (ht : ∀ i, t i < 256) (hN : N ≤ 1600) (hb : b ≤ N) : px_uc t N w u (fun σ => F_X3_statement σ) b (pu_st t N u b) := by
  intro σ hs hX
  have kn : ∀ c, c ≤ 302 → tk_k t N b ≠ c → ¬ σ.1 2 2 = nI c := fun c hc h y => h ((px_kne hs ht hc).mp y)
  have kp : ∀ c, c ≤ 302 → tk_k t N b = c → σ.1 2 2 = nI c := fun c hc h => (px_kne hs ht hc).mpr h
  have wrap : ∀ (G : sw_St → Option (Int32 × sw_St)) (r : uR), px_uc t N w u G b r → ((∀ q, r = .ok q → ∃ σ', ((G σ).bind fun q1 => if q1.1 = 0 ∨ q1.1 = 1 then some (q1.1, q1.2) else none) = some (1, σ') ∧ px_rs σ' t N q.2 ∧ pu_X σ' w q.1 q.2 ∧ pz_sm (pu_S w) σ σ' ∧ (σ'.1 2 5 = σ.1 2 5 ∧ σ'.1 2 6 = σ.1 2 6)) ∧ (∀ e, r = .error e → ∃ σ', ((G σ).bind fun q1 => if q1.1 = 0 ∨ q1.1 = 1 then some (q1.1, q1.2) else none) = some (0, σ') ∧ pz_sm (pu_S w) σ σ' ∧ σ'.1 2 5 = nI e.1 ∧ σ'.1 2 6 = nI e.2)) := fun G r h => by
    obtain ⟨a1, a2⟩ := h σ hs hX
    refine ⟨fun q hq => ?_, fun e he => ?_⟩
    · obtain ⟨σ', p1, p2⟩ := a1 q hq
      refine ⟨σ', ?_, p2⟩
      rw [p1]
      dsimp only [Option.bind_some]
      rw [if_pos (Or.inr rfl)]
    · obtain ⟨σ', p1, p2⟩ := a2 e he
      refine ⟨σ', ?_, p2⟩
      rw [p1]
      dsimp only [Option.bind_some]
      rw [if_pos (Or.inl rfl)]
  have bad : ∃ σ', S_X3_statement_187 σ = some (0, σ') ∧ px_ff σ σ' 1 (tk_s t N b) := by
    obtain ⟨σ', p1, p2⟩ := px_fail (σ := σ) (kd := 1) (pl := tk_s t N b)
    refine ⟨σ', ?_, p2⟩
    unfold S_X3_statement_187
    rw [hs.2.2.1, show F_X6_fail σ 1 (nI (tk_s t N b)) = _ from p1]
    dsimp only [Option.bind_some]
    rw [if_pos (Or.inl rfl)]
  have cod : ∀ j, j < 3 → (F_X3_statement σ = (F_X3_beginFormula σ (nI j)).bind fun q5 => if q5.1 = 0 then some (0, q5.2) else ((R_pg sw_depth (pu_gj j) q5.2 (nI 0)).bind fun q6 => if q6.1 = 0 then some (0, q6.2) else ((F_X3_endFormula q6.2 (nI j)).bind fun q7 => if q7.1 = 0 then some (0, q7.2) else some (1, q7.2)))) → pu_st t N u b = pu_codes t N u j b → ((∀ q, pu_st t N u b = .ok q → ∃ σ', F_X3_statement σ = some (1, σ') ∧ px_rs σ' t N q.2 ∧ pu_X σ' w q.1 q.2 ∧ pz_sm (pu_S w) σ σ' ∧ (σ'.1 2 5 = σ.1 2 5 ∧ σ'.1 2 6 = σ.1 2 6)) ∧ (∀ e, pu_st t N u b = .error e → ∃ σ', F_X3_statement σ = some (0, σ') ∧ pz_sm (pu_S w) σ σ' ∧ σ'.1 2 5 = nI e.1 ∧ σ'.1 2 6 = nI e.2)) := fun j hj e1 e2 => by
    rw [e1, e2]
    exact px_ucd hu ht hN hb hj σ hs hX
  have s120 : ∀ σ, S_X3_statement_120 σ = some (0, σ) := fun σ => by
    unfold S_X3_statement_120 S_X3_statement_121
    rw [if_pos (Or.inl rfl)]
  have s121 : ∀ σ, S_X3_statement_121 σ 1 = some (1, σ) := fun σ => by
    unfold S_X3_statement_121
    rw [if_pos (Or.inr rfl)]
  have s150 : ∀ σ, S_X3_statement_150 σ = some (0, σ) := fun σ => by
    unfold S_X3_statement_150 S_X3_statement_151
    rw [if_pos (Or.inl rfl)]
  have s151 : ∀ σ, S_X3_statement_151 σ 1 = some (1, σ) := fun σ => by
    unfold S_X3_statement_151
    rw [if_pos (Or.inr rfl)]
  have s180 : ∀ σ, S_X3_statement_180 σ = some (0, σ) := fun σ => by
    unfold S_X3_statement_180 S_X3_statement_181
    rw [if_pos (Or.inl rfl)]
  have s181 : ∀ σ, S_X3_statement_181 σ 1 = some (1, σ) := fun σ => by
    unfold S_X3_statement_181
    rw [if_pos (Or.inr rfl)]
  by_cases c1 : tk_k t N b = 256
  · have eF : F_X3_statement σ = (F_X3_fieldStatement σ).bind fun q1 => if q1.1 = 0 ∨ q1.1 = 1 then some (q1.1, q1.2) else none := by
      unfold F_X3_statement
      rw [if_pos (show σ.1 2 2 = 256 from kp 256 (by omega) c1)]
    have eP : pu_st t N u b = pu_field t N u b := by unfold pu_st; rw [if_pos c1]
    (try dsimp only)
    rw [eF, eP]
    exact wrap _ _ (px_uf hu ht hN hb)
  have n256 : ¬ σ.1 2 2 = 256 := kn 256 (by omega) c1
  by_cases c2 : tk_k t N b = 258
  · have eF : F_X3_statement σ = (F_X3_gapStatement σ).bind fun q1 => if q1.1 = 0 ∨ q1.1 = 1 then some (q1.1, q1.2) else none := by
      unfold F_X3_statement
      rw [if_neg n256, if_neg (show ¬ σ.1 2 2 = 257 from kn 257 (by omega) (by omega)), if_pos (show σ.1 2 2 = 258 from kp 258 (by omega) c2)]
    have eP : pu_st t N u b = pu_gap t N u b := by unfold pu_st; rw [if_neg c1, if_pos c2]
    (try dsimp only)
    rw [eF, eP]
    exact wrap _ _ (px_ug hu ht hN hb)
  have n258 : ¬ σ.1 2 2 = 258 := kn 258 (by omega) c2
  by_cases c3 : tk_k t N b = 261
  · have eF : F_X3_statement σ = (F_X3_shutStatement σ).bind fun q1 => if q1.1 = 0 ∨ q1.1 = 1 then some (q1.1, q1.2) else none := by
      unfold F_X3_statement
      rw [if_neg n256, if_neg (show ¬ σ.1 2 2 = 257 from kn 257 (by omega) (by omega)), if_neg n258, if_neg (show ¬ σ.1 2 2 = 259 from kn 259 (by omega) (by omega)), if_neg (show ¬ σ.1 2 2 = 260 from kn 260 (by omega) (by omega)), if_pos (show σ.1 2 2 = 261 from kp 261 (by omega) c3)]
    have eP : pu_st t N u b = pu_shut t N u b := by unfold pu_st; rw [if_neg c1, if_neg c2, if_pos c3]
    (try dsimp only)
    rw [eF, eP]
    exact wrap _ _ (px_uo hu ht hN hb)
  have n261 : ¬ σ.1 2 2 = 261 := kn 261 (by omega) c3
  by_cases c4 : tk_k t N b = 262
  · have eF : F_X3_statement σ = (F_X3_sheepStatement σ).bind fun q1 => if q1.1 = 0 ∨ q1.1 = 1 then some (q1.1, q1.2) else none := by
      unfold F_X3_statement
      rw [if_neg n256, if_neg (show ¬ σ.1 2 2 = 257 from kn 257 (by omega) (by omega)), if_neg n258, if_neg (show ¬ σ.1 2 2 = 259 from kn 259 (by omega) (by omega)), if_neg (show ¬ σ.1 2 2 = 260 from kn 260 (by omega) (by omega)), if_neg n261, if_pos (show σ.1 2 2 = 262 from kp 262 (by omega) c4)]
    have eP : pu_st t N u b = pu_sheep t N u b := by unfold pu_st; rw [if_neg c1, if_neg c2, if_neg c3, if_pos c4]
    (try dsimp only)
    rw [eF, eP]
    exact wrap _ _ (px_us hu ht hN hb)
  have n262 : ¬ σ.1 2 2 = 262 := kn 262 (by omega) c4
  by_cases c5 : tk_k t N b = 265
  · refine cod 0 (by omega) ?_ (by unfold pu_st; rw [if_neg c1, if_neg c2, if_neg c3, if_neg c4, if_pos c5])
    unfold F_X3_statement
    rw [if_neg n256, if_neg (show ¬ σ.1 2 2 = 257 from kn 257 (by omega) (by omega)), if_neg n258, if_neg (show ¬ σ.1 2 2 = 259 from kn 259 (by omega) (by omega)), if_neg (show ¬ σ.1 2 2 = 260 from kn 260 (by omega) (by omega)), if_neg n261, if_neg n262, if_neg (show ¬ σ.1 2 2 = 263 from kn 263 (by omega) (by omega)), if_neg (show ¬ σ.1 2 2 = 264 from kn 264 (by omega) (by omega)), if_pos (show σ.1 2 2 = 265 from kp 265 (by omega) c5)]
    simp only [s120, s121]
    rfl
  have n265 : ¬ σ.1 2 2 = 265 := kn 265 (by omega) c5
  by_cases c6 : tk_k t N b = 266
  · refine cod 1 (by omega) ?_ (by unfold pu_st; rw [if_neg c1, if_neg c2, if_neg c3, if_neg c4, if_neg c5, if_pos c6])
    unfold F_X3_statement
    rw [if_neg n256, if_neg (show ¬ σ.1 2 2 = 257 from kn 257 (by omega) (by omega)), if_neg n258, if_neg (show ¬ σ.1 2 2 = 259 from kn 259 (by omega) (by omega)), if_neg (show ¬ σ.1 2 2 = 260 from kn 260 (by omega) (by omega)), if_neg n261, if_neg n262, if_neg (show ¬ σ.1 2 2 = 263 from kn 263 (by omega) (by omega)), if_neg (show ¬ σ.1 2 2 = 264 from kn 264 (by omega) (by omega)), if_neg n265, if_pos (show σ.1 2 2 = 266 from kp 266 (by omega) c6)]
    simp only [s150, s151]
    rfl
  have n266 : ¬ σ.1 2 2 = 266 := kn 266 (by omega) c6
  by_cases c7 : tk_k t N b = 267
  · refine cod 2 (by omega) ?_ (by unfold pu_st; rw [if_neg c1, if_neg c2, if_neg c3, if_neg c4, if_neg c5, if_neg c6, if_pos c7])
    unfold F_X3_statement
    rw [if_neg n256, if_neg (show ¬ σ.1 2 2 = 257 from kn 257 (by omega) (by omega)), if_neg n258, if_neg (show ¬ σ.1 2 2 = 259 from kn 259 (by omega) (by omega)), if_neg (show ¬ σ.1 2 2 = 260 from kn 260 (by omega) (by omega)), if_neg n261, if_neg n262, if_neg (show ¬ σ.1 2 2 = 263 from kn 263 (by omega) (by omega)), if_neg (show ¬ σ.1 2 2 = 264 from kn 264 (by omega) (by omega)), if_neg n265, if_neg n266, if_pos (show σ.1 2 2 = 267 from kp 267 (by omega) c7)]
    simp only [s180, s181]
    rfl
  have n267 : ¬ σ.1 2 2 = 267 := kn 267 (by omega) c7
  by_cases c8 : tk_k t N b = 268
  · have eF : F_X3_statement σ = (F_X3_stormStatement σ).bind fun q1 => if q1.1 = 0 ∨ q1.1 = 1 then some (q1.1, q1.2) else none := by
      unfold F_X3_statement
      rw [if_neg n256, if_neg (show ¬ σ.1 2 2 = 257 from kn 257 (by omega) (by omega)), if_neg n258, if_neg (show ¬ σ.1 2 2 = 259 from kn 259 (by omega) (by omega)), if_neg (show ¬ σ.1 2 2 = 260 from kn 260 (by omega) (by omega)), if_neg n261, if_neg n262, if_neg (show ¬ σ.1 2 2 = 263 from kn 263 (by omega) (by omega)), if_neg (show ¬ σ.1 2 2 = 264 from kn 264 (by omega) (by omega)), if_neg n265, if_neg n266, if_neg n267, if_pos (show σ.1 2 2 = 268 from kp 268 (by omega) c8)]
    have eP : pu_st t N u b = pu_storm t N u b := by unfold pu_st; rw [if_neg c1, if_neg c2, if_neg c3, if_neg c4, if_neg c5, if_neg c6, if_neg c7, if_pos c8]
    (try dsimp only)
    rw [eF, eP]
    exact wrap _ _ (px_uw ht hN hb)
  have n268 : ¬ σ.1 2 2 = 268 := kn 268 (by omega) c8
  have eF : F_X3_statement σ = S_X3_statement_187 σ := by
    unfold F_X3_statement
    rw [if_neg n256]
    by_cases d1 : σ.1 2 2 = 257
    · rw [if_pos d1]
    rw [if_neg d1, if_neg n258]
    by_cases d2 : σ.1 2 2 = 259
    · rw [if_pos d2]
    rw [if_neg d2]
    by_cases d3 : σ.1 2 2 = 260
    · rw [if_pos d3]
    rw [if_neg d3, if_neg n261, if_neg n262]
    by_cases d4 : σ.1 2 2 = 263
    · rw [if_pos d4]
    rw [if_neg d4]
    by_cases d5 : σ.1 2 2 = 264
    · rw [if_pos d5]
    rw [if_neg d5, if_neg n265, if_neg n266, if_neg n267, if_neg n268]
  have eP : pu_st t N u b = .error (1, tk_s t N b) := by unfold pu_st; rw [if_neg c1, if_neg c2, if_neg c3, if_neg c4, if_neg c5, if_neg c6, if_neg c7, if_neg c8]
  (try dsimp only)
  rw [eF, eP]
  refine ⟨fun q hq => (by cases hq), fun e he => ?_⟩
  rw [← Except.error.inj he]
  obtain ⟨σ', p1, p2⟩ := bad
  exact ⟨σ', p1, p2.S w, p2.2.1, p2.2.2.1⟩
theorem px_uall {t : Nat → Nat} {N w : Nat} (ht : ∀ i, t i < 256) (hN : N ≤ 1600) : ∀ (k fuel c b : Nat) (u : g_U) (σ : sw_St), pu_ok u → px_rs σ t N b → pu_X σ w u b → b ≤ N → c ≤ 60 → 61 ≤ c + k → k ≤ fuel →
    (∀ q, pu_all t N k u c b = .ok q → ∃ σ', L_X3_readUpland_24 fuel σ (nI c) = some (1, σ') ∧ pu_X σ' w q.1 N ∧ pu_ok q.1 ∧ σ'.1 w 0 = nI q.2 ∧ pz_sm (pu_S w) σ σ' ∧ (σ'.1 2 5 = σ.1 2 5 ∧ σ'.1 2 6 = σ.1 2 6)) ∧
    (∀ e, pu_all t N k u c b = .error e → ∃ σ', L_X3_readUpland_24 fuel σ (nI c) = some (0, σ') ∧ pz_sm (pu_S w) σ σ' ∧ σ'.1 2 5 = nI e.1 ∧ σ'.1 2 6 = nI e.2)
  | 0, fuel, c, b, u, σ, hu, hs, hX, hb, hc, hck, hf => by omega
  | k + 1, 0, c, b, u, σ, hu, hs, hX, hb, hc, hck, hf => by omega
  | k + 1, fuel + 1, c, b, u, σ, hu, hs, hX, hb, hc, hck, hf => by
    have hw := hX.1
    have eL : L_X3_readUpland_24 (fuel + 1) σ (nI c) = S_X3_readUpland_24 (fun σ x4 => L_X3_readUpland_24 fuel σ x4) σ (nI c) := rfl
    have eP : pu_all t N (k + 1) u c b = if tk_k t N b = 301 then .ok (u, c) else if c = 60 then .error (5, tk_s t N b) else ub (pu_st t N u b) (fun q => pu_exp t N 59 q.2 (fun b2 => pu_all t N k q.1 (c + 1) b2)) := rfl
    rw [eL, eP]
    unfold S_X3_readUpland_24 S_X3_readUpland_97
    rw [if_neg (show ¬ 60 < nI c from nI_nlt (a := 60) (b := c) hc (by omega))]
    by_cases d1 : tk_k t N b = 301
    · rw [if_pos d1, if_pos (show σ.1 2 2 = 301 from (px_kne hs ht (c := 301) (by omega)).mpr d1), hX.2.1]
      dsimp only [Option.bind_some]
      rw [if_pos (ld_O hw)]
      refine ⟨fun q hq => ?_, fun e he => (by cases he)⟩
      rw [← Except.ok.inj hq]
      have m : pz_sm [w] σ (sw_uI σ w 0 (nI c)) := (pz_sm.refl _ σ).I (by simp) _ _
      refine ⟨_, rfl, ?_, hu, pz_Ie rfl rfl, m.mono (by unfold pu_S; simp), by rw [m.r (by simp <;> omega)], by rw [m.r (by simp <;> omega)]⟩
      obtain ⟨hw, a1, a2, a3, a4, a5, a6, a7, a8, a9, a10, ⟨a11, a12⟩, n0, b1, b2, b3⟩ := hX
      have r : ∀ j k, 1 ≤ j → (sw_uI σ w 0 (nI c)).1 (w + j) k = σ.1 (w + j) k := fun j k hj => pz_Io (by omega) k
      have r0 : ∀ k, k ≠ 0 → (sw_uI σ w 0 (nI c)).1 w k = σ.1 w k := fun k hk => pz_Ik hk w
      refine ⟨hw, a1, by rw [r0 _ (by decide)]; exact a2, by rw [r0 _ (by decide)]; exact a3, by rw [r0 _ (by decide)]; exact a4, by rw [r0 _ (by decide)]; exact a5, by rw [r0 _ (by decide)]; exact a6, by rw [r0 _ (by decide)]; exact a7, fun f hf => by rw [r 2 _ (by decide)]; exact a8 f hf, fun k hk => by rw [r 3 _ (by decide), r 4 _ (by decide), r 5 _ (by decide)]; exact a9 k hk, fun s hs => by rw [r 7 _ (by decide), r 8 _ (by decide)]; exact a10 s hs, ⟨fun f hf => by rw [r 1 _ (by decide)]; exact a11 f hf, fun s hs => by rw [r 6 _ (by decide)]; exact a12 s hs⟩, n0, by rw [r 9 _ (by decide)]; exact b1, by omega, fun j hj => ?_⟩
      obtain ⟨a, c1, c2, c3, c4⟩ := b3 j hj
      exact ⟨a, by rw [r 11 _ (by decide)]; exact c1, by rw [r 12 _ (by decide)]; exact c2, c3, fun i hi => by rw [r 10 _ (by decide)]; exact c4 i hi⟩
    · rw [if_neg d1, if_neg (show ¬ σ.1 2 2 = 301 from fun y => d1 ((px_kne hs ht (c := 301) (by omega)).mp y))]
      by_cases d2 : c = 60
      · rw [if_pos d2, if_pos (show nI c = 60 from by rw [d2]; rfl)]
        refine ⟨fun q hq => (by cases hq), fun e he => ?_⟩
        rw [← Except.error.inj he]
        obtain ⟨σ', p1, p2⟩ := px_fl5 hs
        exact ⟨σ', p1, p2.S w, p2.2.1, p2.2.2.1⟩
      · rw [if_neg d2, if_neg (show ¬ nI c = 60 from fun y => d2 ((nI_eq (b := 60) (by omega) (by omega)).mp y)), nI_1]
        obtain ⟨a1, a2⟩ := px_ust hu ht hN hb σ hs hX
        (try dsimp only at a1 a2)
        cases hr : pu_st t N u b with
        | error e0 =>
          refine ⟨fun q hq => (by cases hq), fun e he => ?_⟩
          have he : (Except.error e0 : Except (Nat × Nat) (g_U × Nat)) = .error e := he
          rw [← Except.error.inj he]
          obtain ⟨σ', p1, p2, p3, p4⟩ := a2 e0 hr
          refine ⟨σ', ?_, p2, p3, p4⟩
          rw [p1]
          rfl
        | ok q0 =>
          obtain ⟨σ1, p1, p2, p3, p4, p5⟩ := a1 q0 hr
          obtain ⟨f1, f2, f3⟩ := pu_st_ok ht hb hu hr
          have hes := tk_e_sp t f3
          have hss := tk_s_sp t f3
          rw [p1]
          dsimp only [Option.bind_some]
          rw [if_neg pz_10]
          obtain ⟨σ2, s1, s2⟩ := px_expect (kd := 59) p2 ht hN f3 (by omega)
          have eu : ub (Except.ok q0) (fun q => pu_exp t N 59 q.2 (fun b2 => pu_all t N k q.1 (c + 1) b2)) = pu_exp t N 59 q0.2 (fun b2 => pu_all t N k q0.1 (c + 1) b2) := rfl
          rw [eu]
          unfold pu_exp
          by_cases d3 : tk_k t N q0.2 = 59
          · obtain ⟨u1, u2, u3⟩ := s1 d3
            rw [if_pos d3, show F_X6_expect σ1 59 = _ from u1]
            dsimp only [Option.bind_some]
            rw [if_neg pz_10]
            obtain ⟨i1, i2⟩ := px_uall ht hN k fuel (c + 1) (tk_e t N q0.2) q0.1 σ2 f1 u2 (p3.mv u3.1 (by omega)) hes.2.1 (by omega) (by omega) (by omega)
            refine ⟨fun q hq => ?_, fun e he => ?_⟩
            · obtain ⟨σ', v1, v2, v3, v4, v5, v6⟩ := i1 q hq
              exact ⟨σ', v1, v2, v3, v4, (p4.trans (u3.S w)).trans v5, by rw [v6.1, u3.2.2.1]; exact p5.1, by rw [v6.2, u3.2.2.2.1]; exact p5.2⟩
            · obtain ⟨σ', v1, v2, v3, v4⟩ := i2 e he
              exact ⟨σ', v1, (p4.trans (u3.S w)).trans v2, v3, v4⟩
          · obtain ⟨u1, u2⟩ := s2 d3
            rw [if_neg d3, show F_X6_expect σ1 59 = _ from u1]
            dsimp only [Option.bind_some]
            rw [if_pos rfl]
            refine ⟨fun q hq => (by cases hq), fun e he => ?_⟩
            rw [← Except.error.inj he]
            exact ⟨σ2, rfl, p4.trans (u2.S w), u2.2.1, u2.2.2.1⟩
theorem px_setF {σ : sw_St} {w i a c : Nat} (hw : w = 6 ∨ w = 19) (hi : i < 3) : F_X9_setFormula σ w (nI i) (nI a) (nI c) = some ((), sw_uI (sw_uI σ (w + 11) i (nI a)) (w + 12) i (nI c)) := by
  unfold F_X9_setFormula
  rw [if_pos (ld_O hw), if_pos (ld_A11 hw), ld_n11 hw, if_pos (pz_inb hi (by omega)), if_pos (ld_O hw), if_pos (ld_A12 hw), ld_n12 hw, if_pos (pz_inb hi (by omega)), nI_clamp (by omega)]
theorem px_clear {σ : sw_St} {w : Nat} (hw : w = 6 ∨ w = 19) (h32 : σ.2.2 32 1 = some w) : ∃ σ', F_X9_clear σ w = some ((), σ') ∧ pu_X σ' w u_0 0 ∧ pz_sm (pu_S w) σ σ' ∧ σ'.1 2 = σ.1 2 ∧ σ'.2.2 2 = σ.2.2 2 := by
  have hc : px_isC (w + 9) := by
    rcases hw with e | e
    · rw [e]; exact Or.inr (Or.inl rfl)
    · rw [e]; exact Or.inr (Or.inr rfl)
  have m0 : pz_sm (pu_S w) σ (sw_uI (sw_uI (sw_uI (sw_uI (sw_uI (sw_uI (sw_uI (sw_uI σ w 0 0) w 1 0) w 2 0) w 3 0) w 4 0) w 5 0) w 6 0) (w + 9) 1 0) := ((((((((pz_sm.refl _ σ).I (by unfold pu_S; simp) _ _).I (by unfold pu_S; simp) _ _).I (by unfold pu_S; simp) _ _).I (by unfold pu_S; simp) _ _).I (by unfold pu_S; simp) _ _).I (by unfold pu_S; simp) _ _).I (by unfold pu_S; simp) _ _).I (by unfold pu_S; simp) _ _
  have z0 : ∀ k, k ≤ 6 → (sw_uI (sw_uI (sw_uI (sw_uI (sw_uI (sw_uI (sw_uI (sw_uI σ w 0 0) w 1 0) w 2 0) w 3 0) w 4 0) w 5 0) w 6 0) (w + 9) 1 0).1 w k = nI 0 := fun k hk => by
    rw [pz_Io (by omega)]
    have k7 : k = 0 ∨ k = 1 ∨ k = 2 ∨ k = 3 ∨ k = 4 ∨ k = 5 ∨ k = 6 := by omega
    rcases k7 with e | e | e | e | e | e | e
    all_goals
      rw [e]
      repeat rw [pz_Ik (by decide)]
      exact pz_Ie rfl rfl
  have z9 : (sw_uI (sw_uI (sw_uI (sw_uI (sw_uI (sw_uI (sw_uI (sw_uI σ w 0 0) w 1 0) w 2 0) w 3 0) w 4 0) w 5 0) w 6 0) (w + 9) 1 0).1 (w + 9) 1 = nI 0 := pz_Ie rfl rfl
  have z2 : ∀ k, (sw_uI (sw_uI (sw_uI (sw_uI (sw_uI (sw_uI (sw_uI (sw_uI σ w 0 0) w 1 0) w 2 0) w 3 0) w 4 0) w 5 0) w 6 0) (w + 9) 1 0).1 2 k = σ.1 2 k := fun k => by
    rw [pz_Io (by omega), pz_Io (by omega), pz_Io (by omega), pz_Io (by omega), pz_Io (by omega), pz_Io (by omega), pz_Io (by omega), pz_Io (by omega)]
  have y32 : (sw_uI (sw_uI (sw_uI (sw_uI (sw_uI (sw_uI (sw_uI (sw_uI σ w 0 0) w 1 0) w 2 0) w 3 0) w 4 0) w 5 0) w 6 0) (w + 9) 1 0).2.2 = σ.2.2 := rfl
  unfold F_X9_clear
  simp only [ld_O hw, ld_C hw, if_true]
  generalize hg0 : sw_uI (sw_uI (sw_uI (sw_uI (sw_uI (sw_uI (sw_uI (sw_uI σ w 0 0) w 1 0) w 2 0) w 3 0) w 4 0) w 5 0) w 6 0) (w + 9) 1 0 = σ0 at m0 z0 z9 z2 y32
  rw [px_emit (n0 := 0) hc z9 (by omega)]
  dsimp only [Option.bind_some]
  rw [px_emit (n0 := 1) hc (pz_Ie rfl rfl) (by omega)]
  dsimp only [Option.bind_some]
  rw [px_emit (n0 := 2) hc (pz_Ie rfl rfl) (by omega)]
  dsimp only [Option.bind_some]
  rw [show F_X9_setFormula _ w 0 0 3 = _ from px_setF (i := 0) (a := 0) (c := 3) hw (by omega)]
  dsimp only [Option.bind_some]
  rw [px_emit (n0 := 3) hc (by rw [pz_Io (by omega), pz_Io (by omega), pz_Ie rfl rfl]) (by omega)]
  dsimp only [Option.bind_some]
  rw [show F_X9_setFormula _ w 1 3 4 = _ from px_setF (i := 1) (a := 3) (c := 4) hw (by omega)]
  dsimp only [Option.bind_some]
  rw [px_emit (n0 := 4) hc (by rw [pz_Io (by omega), pz_Io (by omega), pz_Ie rfl rfl]) (by omega)]
  dsimp only [Option.bind_some]
  rw [show F_X9_setFormula _ w 2 4 5 = _ from px_setF (i := 2) (a := 4) (c := 5) hw (by omega)]
  dsimp only [Option.bind_some]
  refine ⟨_, rfl, ?_, ?_, ?_, ?_⟩
  · refine ⟨hw, ?_, ?_, ?_, ?_, ?_, ?_, ?_, fun f hf => (by cases hf), fun k hk => (by cases hk), fun s hs => (by cases hs), ⟨fun f hf => (by cases hf), fun s hs => (by cases hs)⟩, 5, ?_, by omega, fun j hj => ?_⟩
    · show σ0.2.2 32 1 = some w
      rw [y32]
      exact h32
    · repeat rw [pz_Io (by omega)]
      exact z0 1 (by omega)
    · repeat rw [pz_Io (by omega)]
      exact z0 2 (by omega)
    · repeat rw [pz_Io (by omega)]
      exact z0 3 (by omega)
    · repeat rw [pz_Io (by omega)]
      exact z0 4 (by omega)
    · repeat rw [pz_Io (by omega)]
      exact z0 5 (by omega)
    · repeat rw [pz_Io (by omega)]
      exact z0 6 (by omega)
    · rw [pz_Io (by omega), pz_Io (by omega), pz_Ie rfl rfl]
    · have j3 : j = 0 ∨ j = 1 ∨ j = 2 := by omega
      rcases j3 with e | e | e
      · rw [e]
        refine ⟨0, ?_, ?_, by decide, fun i hi => ?_⟩
        · repeat first | rw [pz_Io (by omega)] | rw [pz_Ik (by decide)]
          exact pz_Ie rfl rfl
        · repeat first | rw [pz_Io (by omega)] | rw [pz_Ik (by decide)]
          exact pz_Ie rfl rfl
        · have hi : i < 3 := hi
          have i3 : i = 0 ∨ i = 1 ∨ i = 2 := by omega
          rcases i3 with e2 | e2 | e2
          all_goals
            rw [e2]
            repeat first | rw [pz_Io (by omega)] | rw [pz_Ik (by decide)]
            exact pz_Ie rfl rfl
      · rw [e]
        refine ⟨3, ?_, ?_, by decide, fun i hi => ?_⟩
        · repeat first | rw [pz_Io (by omega)] | rw [pz_Ik (by decide)]
          exact pz_Ie rfl rfl
        · repeat first | rw [pz_Io (by omega)] | rw [pz_Ik (by decide)]
          exact pz_Ie rfl rfl
        · have hi : i < 1 := hi
          have i1 : i = 0 := by omega
          rw [i1]
          repeat first | rw [pz_Io (by omega)] | rw [pz_Ik (by decide)]
          exact pz_Ie rfl rfl
      · rw [e]
        refine ⟨4, ?_, ?_, by decide, fun i hi => ?_⟩
        · repeat first | rw [pz_Io (by omega)] | rw [pz_Ik (by decide)]
          exact pz_Ie rfl rfl
        · exact pz_Ie rfl rfl
        · have hi : i < 1 := hi
          have i1 : i = 0 := by omega
          rw [i1]
          repeat first | rw [pz_Io (by omega)] | rw [pz_Ik (by decide)]
          exact pz_Ie rfl rfl
  · refine m0.trans ?_
    repeat first
      | exact pz_sm.refl _ _
      | refine pz_sm.I ?_ (by unfold pu_S; simp) _ _
  · funext k
    repeat rw [pz_Io (by omega)]
    exact z2 k
  · show σ0.2.2 2 = σ.2.2 2
    rw [y32]
theorem px_rdU {σ : sw_St} {t : Nat → Nat} {N w : Nat} (hw : w = 6 ∨ w = 19) (ht : ∀ i, t i < 256) (hN : N ≤ 1600) (h1 : ∀ i, i < N → σ.1 1 i = sB (t i)) :
    (∀ q, pu_all t N 61 u_0 0 0 = .ok q → ∃ σ', F_X3_readUpland σ 1 (nI N) w = some (1, σ') ∧ pu_X σ' w q.1 N ∧ pu_ok q.1 ∧ σ'.1 w 0 = nI q.2 ∧ pz_sm (pu_S w) σ σ' ∧ (σ'.1 2 5 = nI 0 ∧ σ'.1 2 6 = -1)) ∧
    (∀ e, pu_all t N 61 u_0 0 0 = .error e → ∃ σ', F_X3_readUpland σ 1 (nI N) w = some (0, σ') ∧ pz_sm (pu_S w) σ σ' ∧ σ'.1 2 5 = nI e.1 ∧ σ'.1 2 6 = nI e.2) := by
  have hfu := sw_fuel_ge
  have mR : pz_sm (pu_S w) σ (sw_uR σ 32 1 (some w)) := (pz_sm.refl _ σ).R (by unfold pu_S; simp) _ _
  obtain ⟨σ1, p1, p2, p3, p4, p5⟩ := px_clear (σ := sw_uR σ 32 1 (some w)) hw pz_Re
  have m1 := mR.trans p3
  obtain ⟨σ2, q1, q2, q3, q4, q5⟩ := px_open (σ := σ1) ht hN (fun i hi => by rw [m1.r (by unfold pu_S; simp <;> omega)]; exact h1 i hi)
  have m2 : pz_sm (pu_S w) σ σ2 := m1.trans (q3.mono (by unfold pu_S; simp))
  obtain ⟨i1, i2⟩ := px_uall (w := w) ht hN 61 sw_fuel 0 0 u_0 σ2 u_0_ok q2 (p2.mv q3 (by omega)) (by omega) (by omega) (by omega) (by omega)
  have eF : F_X3_readUpland σ 1 (nI N) w = L_X3_readUpland_24 sw_fuel σ2 (nI 0) := by
    unfold F_X3_readUpland
    dsimp only [Option.bind_some]
    rw [if_pos (ld_O hw), p1]
    dsimp only [Option.bind_some]
    rw [q1]
    rfl
  rw [eF]
  refine ⟨fun q hq => ?_, fun e he => ?_⟩
  · obtain ⟨σ', v1, v2, v3, v4, v5, v6⟩ := i1 q hq
    exact ⟨σ', v1, v2, v3, v4, m2.trans v5, by rw [v6.1]; exact q4, by rw [v6.2]; exact q5⟩
  · obtain ⟨σ', v1, v2, v3, v4⟩ := i2 e he
    exact ⟨σ', v1, m2.trans v2, v3, v4⟩

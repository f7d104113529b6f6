/-! The reference: one sheep. -/
def g_def : Nat → List Nat := fun i => if i = 0 then [43, 44, 2] else if i = 1 then [1000] else [41]
def pm_ld (τ : sw_St) (l : Nat → Nat → Nat) (P : Nat → List Nat) : Prop :=
  τ.1 28 4 = nI (l 0 0) ∧ τ.1 28 6 = nI (l 0 1) ∧ τ.1 28 5 = nI (l 0 2) ∧ τ.1 28 7 = nI (l 0 3) ∧ (∀ f, f < l 0 0 → τ.1 30 (8 + f) = nI (l 1 f)) ∧ (∀ j, j < 3 * l 0 1 → τ.1 31 (30 + j) = nI (l 2 j)) ∧ (∀ j, j < 2 * l 0 2 → τ.1 33 (12 + j) = nI (l 3 j)) ∧
  ∀ i, i < 3 → (τ.1 34 (3 + i) = -1 ∧ P i = g_def i) ∨ ∃ a, a + (P i).length ≤ 1600 ∧ τ.1 34 (3 + i) = nI a ∧ τ.1 35 (3 + i) = nI (a + (P i).length) ∧ pm_cd τ 36 (1600 + a) (P i) ∧ (i = 1 → pe_wt 1 (P 1) [] = some [1])
def pm_LS (S : List Nat) : Prop := 28 ∉ S ∧ 30 ∉ S ∧ 31 ∉ S ∧ 33 ∉ S ∧ 34 ∉ S ∧ 35 ∉ S ∧ 36 ∉ S
theorem pm_ld.mv {τ τ' : sw_St} {l : Nat → Nat → Nat} {P : Nat → List Nat} {S K : List Nat} (h : pm_ld τ l P) (m : pm_sm S K τ τ') (hS : pm_LS S) : pm_ld τ' l P := by
  obtain ⟨s1, s2, s3, s4, s5, s6, s7⟩ := hS
  obtain ⟨a1, a2, a3, a4, a5, a6, a7, a8⟩ := h
  have r28 := (m.1 28 (by decide) s1).1
  have r30 := (m.1 30 (by decide) s2).1
  have r31 := (m.1 31 (by decide) s3).1
  have r33 := (m.1 33 (by decide) s4).1
  have r34 := (m.1 34 (by decide) s5).1
  have r35 := (m.1 35 (by decide) s6).1
  have r36 := (m.1 36 (by decide) s7).1
  unfold pm_ld
  rw [r28, r30, r31, r33, r34, r35]
  refine ⟨a1, a2, a3, a4, a5, a6, a7, fun i hi => ?_⟩
  rcases a8 i hi with h | ⟨a, b1, b2, b3, b4, b5⟩
  · exact Or.inl h
  · exact Or.inr ⟨a, b1, b2, b3, b4.mv r36, b5⟩
/-- the gaps that are open, as the reference shows them -/
def pm_op (τ : sw_St) (l : Nat → Nat → Nat) (op : Nat → Bool) : Prop := ∀ k, k < l 0 1 → τ.1 37 (2 + k) = nI (if op k = true then 1 else 0)
theorem pm_isOpen {τ : sw_St} {l : Nat → Nat → Nat} {op : Nat → Bool} {k : Nat} (h : pm_op τ l op) (hk : k < l 0 1) (hg : l 0 1 ≤ 10) : F_X11_isOpen τ (nI k) = some (if op k = true then 1 else 0, τ) := by
  unfold F_X11_isOpen S_X11_isOpen_17
  rw [pm_ad, if_pos (pz_inb (by omega) (by omega)), nI_clamp (by omega), h k hk]
  by_cases ho : op k = true
  · rw [if_pos ho, if_pos ho, if_pos (by decide), if_pos (by decide)]
  · rw [if_neg ho, if_neg ho, if_neg (by decide), if_pos (by decide)]
theorem pm_across {τ : sw_St} {l : Nat → Nat → Nat} {P : Nat → List Nat} {op : Nat → Bool} {k f : Nat} (hg : g_ld l P) (hl : pm_ld τ l P) (h : pm_op τ l op) (hk : k < l 0 1) (hf : f < 8) : F_X11_acrossFrom τ (nI f) (nI k) = some (oI (if op k = true then g_bey l k f else none), τ) := by
  have g1 := hg.2.1
  have g2 := hg.2.2.2.2.2.1 k hk
  have g3 := hg.1
  have e1 : τ.1 31 (30 + 3 * k) = nI (l 2 (3 * k)) := hl.2.2.2.2.2.1 _ (by omega)
  have e2 : τ.1 31 (31 + 3 * k) = nI (l 2 (3 * k + 1)) := by
    rw [show 31 + 3 * k = 30 + (3 * k + 1) by omega]
    exact hl.2.2.2.2.2.1 _ (by omega)
  unfold F_X11_acrossFrom S_X11_acrossFrom_69 g_bey
  rw [pm_isOpen h hk g1]
  dsimp only [Option.bind]
  by_cases ho : op k = true
  · rw [if_pos ho, if_pos ho, if_neg (by decide), pm_ix, pm_ix, if_pos (pz_inb (by omega) (by omega)), nI_clamp (by omega), nI_clamp (by omega), e1, e2]
    by_cases q1 : l 2 (3 * k) = f
    · rw [if_pos q1, if_pos (by rw [q1]), if_pos (pz_inb (by omega) (by omega))]
      rfl
    · rw [if_neg q1, if_neg (by rw [nI_eq (by omega) (by omega)]; exact q1), if_pos (pz_inb (by omega) (by omega))]
      by_cases q2 : l 2 (3 * k + 1) = f
      · rw [if_pos q2, if_pos (by rw [q2]), if_pos (pz_inb (by omega) (by omega))]
        rfl
      · rw [if_neg q2, if_neg (by rw [nI_eq (by omega) (by omega)]; exact q2)]
        rfl
  · rw [if_neg ho, if_neg ho, if_pos rfl]
    rfl
theorem pm_beyond {τ : sw_St} {l : Nat → Nat → Nat} {P : Nat → List Nat} {op : Nat → Bool} {day cur k s : Nat} {row : Nat → Nat} (hg : g_ld l P) (hl : pm_ld τ l P) (h : pm_op τ l op) (hv : pm_vw τ l day cur row s) (hr : g_rk cur row) (hk : k < l 0 1) : F_X11_beyond τ (nI s) (nI k) = some (oI (if op k = true then g_bey l k (row 0) else none), τ) := by
  unfold F_X11_beyond
  rw [pm_fieldOf hv.1]
  dsimp only [Option.bind]
  rw [show 12 + 12 * s = 12 + 12 * s + 0 by omega, hv.2.2.1 0 (by omega), pm_across hg hl h hk hr.2.1]
theorem pm_tell {τ : sw_St} {l : Nat → Nat → Nat} {P : Nat → List Nat} {day cur s fld mi which t a : Nat} {row : Nat → Nat} (hg : g_ld l P) (hl : pm_ld τ l P) (hv : pm_vw τ l day cur row s) (hr : g_rk cur row) (hd : day ≤ 100000) (hw : which < 3) (h55 : which ≤ 1 → τ.1 0 55 = nI fld ∧ fld < l 0 0) (h56 : which = 0 → τ.1 0 56 = nI mi) (hmi : mi ≤ 9) (hlf : which ≤ 1 → l 1 fld ≤ 9) (hty : pe_wt which (P which) [] = some [t]) (ha : a + (P which).length ≤ 1600) (h34 : τ.1 34 (3 + which) = nI a) (h35 : τ.1 35 (3 + which) = nI (a + (P which).length)) (hc : pm_cd τ 36 (1600 + a) (P which)) :
    ∃ y τ', F_X11_codesTell τ (nI which) (nI s) = some (y, τ') ∧ y.toInt = g_val (g_env l day cur row s fld mi) (P which) ∧ pm_sm [73] [48, 54, 101] τ τ' := by
  have hE : pe_env which (g_env l day cur row s fld mi) g_of := g_envok hg hr hd hv.1 (fun z => (h55 z).2) hmi hw
  have m0 : pm_sm [73] [48, 54, 101] τ (sw_uI (sw_uI (sw_uI τ 0 54 (nI s)) 0 48 (nI which)) 0 101 0) := (((pm_sm.refl _ _ τ).K (by decide) _).K (by decide) _).K (by decide) _
  obtain ⟨y, τ', q1, q2, q3⟩ := pm_loop (kind := which) (which := which) (t := t) (s := s) hw hw hE (P which) sw_fuel a (sw_uI (sw_uI (sw_uI τ 0 54 (nI s)) 0 48 (nI which)) 0 101 0) [] [] (by have := sw_fuel_ge; omega) ha (hc.mv (m0.1 36 (by decide) (by decide)).1) (by rw [m0.r (by decide) (by decide)]; exact h35) (fun τ' hm v hv' => by
      have m1 : pm_sm [73] [48, 54, 101] τ τ' := m0.trans (hm.mono (by decide) (by decide))
      refine pm_part (kind := which) (nI s) (hv.mv m1 (by decide) (by decide)) hr hd hlf hmi ?_ (fun z => ?_) hg.1 (fun z => ?_) hv'
      · rw [hm.2.1 54 (by decide), pz_Ik (by decide), pz_Ik (by decide), pz_Ie rfl rfl]
      · rw [m1.2.1 55 (by decide)]
        exact h55 z
      · rw [m1.2.1 56 (by decide)]
        exact h56 z) trivial (by simp) hty trivial (by rw [pz_Ie rfl rfl]; rfl)
  refine ⟨y, τ', ?_, ?_, m0.trans (q3.mono (by decide) (by decide))⟩
  · unfold F_X11_codesTell
    rw [pm_ad, if_pos (pz_inb (by omega) (by omega)), nI_clamp (by omega), h34]
    exact q1
  · unfold g_val
    rw [q2]
    rfl
theorem pm_told {τ : sw_St} {i : Nat} (hi : i < 3) (h : τ.1 34 (3 + i) = -1) : F_X11_isTold τ (nI i) = some (0, τ) := by
  unfold F_X11_isTold S_X11_isTold_17
  rw [pm_ad, if_pos (pz_inb (by omega) (by omega)), nI_clamp (by omega), if_pos h, if_pos (by decide)]
theorem pm_told1 {τ : sw_St} {i a : Nat} (hi : i < 3) (h : τ.1 34 (3 + i) = nI a) (ha : a < 2 ^ 31) : F_X11_isTold τ (nI i) = some (1, τ) := by
  unfold F_X11_isTold S_X11_isTold_17
  rw [pm_ad, if_pos (pz_inb (by omega) (by omega)), nI_clamp (by omega), if_neg (by rw [h]; exact pz_nm1 ha), if_pos (by decide)]
theorem pm_lures {τ : sw_St} {l : Nat → Nat → Nat} {P : Nat → List Nat} {op : Nat → Bool} {day cur s k b : Nat} {row : Nat → Nat} (hg : g_ld l P) (hl : pm_ld τ l P) (ho : pm_op τ l op) (hv : pm_vw τ l day cur row s) (hr : g_rk cur row) (hd : day ≤ 100000) (hk : k < l 0 1) (hop : op k = true) (hb : g_bey l k (row 0) = some b) :
    ∃ y τ', F_X11_luresOf τ (nI s) (nI k) = some (y, τ') ∧ y.toInt = g_lure l P day cur row s k b ∧ pm_sm [73] [48, 54, 55, 56, 101] τ τ' := by
  have hb8 := g_bey_lt hg hk hb
  have hk10 := hg.2.1
  have hmi := (hg.2.2.2.2.2.1 k hk).2.2.2.1
  have hlf := hg.2.2.2.2.1 b hb8.1
  have e2 : τ.1 31 (32 + 3 * k) = nI (l 2 (3 * k + 2)) := by
    rw [show 32 + 3 * k = 30 + (3 * k + 2) by omega]
    exact hl.2.2.2.2.2.1 _ (by omega)
  have m1 : pm_sm [73] [48, 54, 55, 56, 101] τ (sw_uI τ 0 55 (nI b)) := (pm_sm.refl _ _ τ).K (by decide) _
  have m2 : pm_sm [73] [48, 54, 55, 56, 101] τ (sw_uI (sw_uI τ 0 55 (nI b)) 0 56 (nI (l 2 (3 * k + 2)))) := m1.K (by decide) _
  unfold F_X11_luresOf S_X11_luresOf_59
  rw [pm_beyond hg hl ho hv hr hk, if_pos hop, hb]
  dsimp only [Option.bind, oI]
  rw [pm_milesOf (by omega)]
  dsimp only
  rw [pz_Io (by decide), e2]
  have hl2 := hl.mv m2 (by unfold pm_LS; decide)
  have hv2 := hv.mv m2 (by decide) (by decide)
  rcases hl2.2.2.2.2.2.2.2 0 (by omega) with ⟨q1, q2⟩ | ⟨a, q1, q2, q3, q4, -⟩
  · rw [show (0 : Int32) = nI 0 from rfl, pm_told (by omega) q1]
    dsimp only
    rw [if_pos (by decide), pz_Ik (by decide), pz_Ie rfl rfl, pm_ad, if_pos (pz_inb (by omega) (by omega)), pm_seenOf hv.1 hb8.2]
    dsimp only
    have s1 := hr.2.2.2.2.2 b hb8.2
    rw [show 16 + 12 * s + b = 12 + 12 * s + (4 + b) by omega, hv2.2.2.1 (4 + b) (by omega), nI_clamp (by omega), hl2.2.2.2.2.1 b hb8.1]
    refine ⟨_, _, rfl, ?_, m2⟩
    rw [px_wide, pk_sub_toInt (by omega) (by omega)]
    unfold g_lure g_val
    rw [q2]
    show (l 1 b : Int) - (row (4 + b) : Int) = pe_jn 2 (l 1 b : Int) (row (4 + b) : Int)
    rw [pe_j2, pe_clip_id (by omega) (by omega)]
  · rw [show (0 : Int32) = nI 0 from rfl, pm_told1 (by omega) q2 (by omega)]
    dsimp only
    rw [if_neg (by decide)]
    obtain ⟨y, τ', p1, p2, p3⟩ := pm_tell (which := 0) (fld := b) (mi := l 2 (3 * k + 2)) hg hl2 hv2 hr hd (by omega) (fun _ => ⟨by rw [pz_Ik (by decide), pz_Ie rfl rfl], hb8.1⟩) (fun _ => pz_Ie rfl rfl) hmi (fun _ => hlf) hg.2.2.2.2.2.2.2.1 q1 q2 q3 q4
    rw [p1]
    exact ⟨y, τ', rfl, p2, m2.trans (p3.mono (by decide) (by decide))⟩
theorem pm_stay {τ : sw_St} {l : Nat → Nat → Nat} {P : Nat → List Nat} {day cur s : Nat} {row : Nat → Nat} (hg : g_ld l P) (hl : pm_ld τ l P) (hv : pm_vw τ l day cur row s) (hr : g_rk cur row) (hd : day ≤ 100000) (hf : row 0 < l 0 0) :
    ∃ τ', F_X11_doesStay τ (nI s) = some (if g_stays l P day cur row s = true then 1 else 0, τ') ∧ pm_sm [73] [48, 54, 55, 56, 101] τ τ' := by
  have hlf := hg.2.2.2.2.1 (row 0) hf
  have m1 : pm_sm [73] [48, 54, 55, 56, 101] τ (sw_uI τ 0 55 (nI (row 0))) := (pm_sm.refl _ _ τ).K (by decide) _
  unfold F_X11_doesStay S_X11_doesStay_32 S_X11_doesStay_33
  rw [pm_fieldOf hv.1]
  dsimp only [Option.bind]
  rw [show 12 + 12 * s = 12 + 12 * s + 0 by omega, hv.2.2.1 0 (by omega)]
  have hl2 := hl.mv m1 (by unfold pm_LS; decide)
  have hv2 := hv.mv m1 (by decide) (by decide)
  rcases hl2.2.2.2.2.2.2.2 1 (by omega) with ⟨q1, q2⟩ | ⟨a, q1, q2, q3, q4, q5⟩
  · rw [show (1 : Int32) = nI 1 from rfl, pm_told (by omega) q1]
    dsimp only
    have hst : g_stays l P day cur row s = false := by
      unfold g_stays g_val
      rw [q2]
      rfl
    rw [hst, if_pos rfl, if_pos (Or.inl rfl)]
    exact ⟨_, rfl, m1⟩
  · rw [show (1 : Int32) = nI 1 from rfl, pm_told1 (by omega) q2 (by omega)]
    dsimp only
    rw [if_neg (by decide)]
    have hty := q5 rfl
    obtain ⟨y, τ', p1, p2, p3⟩ := pm_tell (which := 1) (fld := row 0) (mi := 0) hg hl2 hv2 hr hd (by omega) (fun _ => ⟨pz_Ie rfl rfl, hf⟩) (fun z => by omega) (by omega) (fun _ => hlf) hty q1 q2 q3 q4
    rw [p1]
    dsimp only
    have hE : pe_env 1 (g_env l day cur row s (row 0) 0) g_of := g_envok hg hr hd hv.1 (fun z => hf) (by omega) (by omega)
    have hok := pe_run_ok hE (T := []) (S := []) trivial hty
    obtain ⟨v, S1, e1, e2, -⟩ := pe_ok_cons hok
    have hval : g_val (g_env l day cur row s (row 0) 0) (P 1) = v := by unfold g_val; rw [e1]; rfl
    have h01 := e2.2.2 rfl
    rw [hval] at p2
    have l1 : (1 : Int64).toInt = 1 := by decide
    unfold g_stays
    rw [hval]
    simp only [lg_cmp_eq, fa_eq64, l1, p2]
    refine ⟨τ', ?_, m1.trans (p3.mono (by decide) (by decide))⟩
    rcases h01 with h | h
    · rw [h]
      rfl
    · rw [h]
      rfl
theorem pm_worth {τ : sw_St} {l : Nat → Nat → Nat} {P : Nat → List Nat} {day cur s : Nat} {row : Nat → Nat} (hg : g_ld l P) (hl : pm_ld τ l P) (hv : pm_vw τ l day cur row s) (hr : g_rk cur row) (hd : day ≤ 100000) :
    ∃ τ', F_X11_worthOf τ (nI s) = some (nI (g_worth l P day cur row s), τ') ∧ pm_sm [73] [48, 54, 55, 56, 101] τ τ' := by
  have fin : ∀ (τ' : sw_St) (y : Int64), y.toInt = g_val (g_env l day cur row s 0 0) (P 2) → S_X11_worthOf_23 τ' y = some (nI (g_worth l P day cur row s), τ') := fun τ' y hy => by
    have l0 : (0 : Int64).toInt = 0 := by decide
    have l9 : (9999 : Int64).toInt = 9999 := by decide
    unfold S_X11_worthOf_23 S_X11_worthOf_50 g_worth g_cut
    simp only [lg_cmp_ge, lg_cmp_le, fa_le64, l0, l9, ← hy]
    by_cases h1 : 0 ≤ y.toInt
    · rw [if_pos h1, if_neg (show ¬ y.toInt < 0 by omega)]
      by_cases h2 : y.toInt ≤ 9999
      · rw [if_pos h2, if_neg (show ¬ (9999 : Int) < y.toInt by omega)]
        congr 2
        rw [fa_eq, px_toI (by omega) (by omega), nI_toInt (by omega)]
        omega
      · rw [if_neg h2, if_pos (show (9999 : Int) < y.toInt by omega)]
        rfl
    · rw [if_neg h1, if_pos (show y.toInt < 0 by omega)]
      rfl
  unfold F_X11_worthOf
  rcases hl.2.2.2.2.2.2.2 2 (by omega) with ⟨q1, q2⟩ | ⟨a, q1, q2, q3, q4, -⟩
  · rw [show (2 : Int32) = nI 2 from rfl, pm_told (by omega) q1]
    dsimp only [Option.bind]
    rw [if_pos rfl, pm_woolOf hv.1]
    dsimp only
    rw [show 13 + 12 * s = 12 + 12 * s + 1 by omega, hv.2.2.1 1 (by omega)]
    have := hr.2.2.1
    refine ⟨τ, fin _ _ ?_, pm_sm.refl _ _ _⟩
    rw [px_wide, nI_toInt (by omega)]
    unfold g_val
    rw [q2]
    rfl
  · rw [show (2 : Int32) = nI 2 from rfl, pm_told1 (by omega) q2 (by omega)]
    dsimp only [Option.bind]
    rw [if_neg (by decide)]
    obtain ⟨y, τ', p1, p2, p3⟩ := pm_tell (which := 2) (fld := 0) (mi := 0) hg hl hv hr hd (by omega) (fun z => by omega) (fun z => by omega) (by omega) (fun z => by omega) hg.2.2.2.2.2.2.2.2.2 q1 q2 q3 q4
    rw [p1]
    exact ⟨τ', fin _ _ p2, p3.mono (by decide) (by decide)⟩
theorem pm_gloop {l : Nat → Nat → Nat} {P : Nat → List Nat} {op : Nat → Bool} {day cur s : Nat} {row : Nat → Nat} (hg : g_ld l P) (hr : g_rk cur row) (hd : day ≤ 100000) : ∀ (n fuel k : Nat) (τ : sw_St) (y : Int64), pm_ld τ l P → pm_op τ l op → pm_vw τ l day cur row s → k + n = l 0 1 → n < fuel → y.toInt = (g_best (g_pull l P op day cur row s) k).2 →
    ∃ τ', L_X11_gapFor_17 fuel τ (nI s) (oI (g_best (g_pull l P op day cur row s) k).1) y (nI k) = some (oI (g_best (g_pull l P op day cur row s) (l 0 1)).1, τ') ∧ pm_sm [73] [48, 54, 55, 56, 101] τ τ'
  | 0, fuel + 1, k, τ, y, hl, ho, hv, hk, hf, hy => by
    have hk10 := hg.2.1
    refine ⟨τ, ?_, pm_sm.refl _ _ _⟩
    show S_X11_gapFor_17 _ τ (nI s) _ y (nI k) = _
    unfold S_X11_gapFor_17 F_X11_gapMany
    dsimp only [Option.bind]
    rw [hl.2.1, if_pos (by rw [nI_leI (by omega) (by omega)]; omega)]
    rw [show k = l 0 1 by omega]
  | n + 1, fuel + 1, k, τ, y, hl, ho, hv, hk, hf, hy => by
    have hk10 := hg.2.1
    have hkl : k < l 0 1 := by omega
    have go : ∀ (τ' : sw_St) (z : Int64), pm_sm [73] [48, 54, 55, 56, 101] τ τ' → z.toInt = g_pull l P op day cur row s k → ∃ τ2, S_X11_gapFor_48 (fun σ x1 x2 y3 x5 => L_X11_gapFor_17 fuel σ x1 x2 y3 x5) τ' (nI s) (oI (g_best (g_pull l P op day cur row s) k).1) y (nI k) z = some (oI (g_best (g_pull l P op day cur row s) (l 0 1)).1, τ2) ∧ pm_sm [73] [48, 54, 55, 56, 101] τ τ2 := fun τ' z hm hz => by
      unfold S_X11_gapFor_48 S_X11_gapFor_66
      rw [nI_1]
      have hS : pm_LS [73] := by unfold pm_LS; decide
      have ho' : pm_op τ' l op := fun k hk => by rw [hm.r (by decide) (by decide)]; exact ho k hk
      by_cases hc : 0 < lg_cmp z y
      · rw [if_pos hc]
        have hc2 := (lg_cmp_gt _ _).mp hc
        rw [fa_lt64, hz, hy] at hc2
        have e : g_best (g_pull l P op day cur row s) (k + 1) = (some k, g_pull l P op day cur row s k) := by
          rw [g_best, if_pos hc2]
        obtain ⟨τ2, p1, p2⟩ := pm_gloop hg hr hd n fuel (k + 1) τ' z (hl.mv hm hS) ho' (hv.mv hm (by decide) (by decide)) (by omega) (by omega) (by rw [e]; exact hz)
        rw [e] at p1
        exact ⟨τ2, p1, hm.trans p2⟩
      · rw [if_neg hc]
        have hc2 : ¬ y < z := fun q => hc ((lg_cmp_gt _ _).mpr q)
        rw [fa_lt64, hz, hy] at hc2
        have e : g_best (g_pull l P op day cur row s) (k + 1) = g_best (g_pull l P op day cur row s) k := by
          rw [g_best, if_neg hc2]
        obtain ⟨τ2, p1, p2⟩ := pm_gloop hg hr hd n fuel (k + 1) τ' y (hl.mv hm hS) ho' (hv.mv hm (by decide) (by decide)) (by omega) (by omega) (by rw [e]; exact hy)
        rw [e] at p1
        exact ⟨τ2, p1, hm.trans p2⟩
    show ∃ τ', S_X11_gapFor_17 _ τ (nI s) _ y (nI k) = _ ∧ _
    unfold S_X11_gapFor_17 F_X11_gapMany
    dsimp only [Option.bind]
    rw [hl.2.1, if_neg (by rw [nI_leI (by omega) (by omega)]; omega), pm_beyond hg hl ho hv hr hkl]
    dsimp only
    by_cases hop : op k = true
    · rw [if_pos hop]
      cases hb : g_bey l k (row 0) with
      | none =>
        rw [if_pos (by rfl)]
        exact go τ 0 (pm_sm.refl _ _ _) (by unfold g_pull; rw [hb]; rfl)
      | some b =>
        have hb8 := g_bey_lt hg hkl hb
        rw [if_neg (by exact pz_nm1 (by omega))]
        obtain ⟨z, τ', p1, p2, p3⟩ := pm_lures hg hl ho hv hr hd hkl hop hb
        rw [p1]
        exact go τ' z p3 (by unfold g_pull; rw [hb]; dsimp only; rw [if_pos hop]; exact p2)
    · rw [if_neg hop, if_pos (by rfl)]
      exact go τ 0 (pm_sm.refl _ _ _) (by
        unfold g_pull
        cases hb : g_bey l k (row 0) with
        | none => rfl
        | some b => dsimp only; rw [if_neg hop]; rfl)
theorem pm_gapFor {τ : sw_St} {l : Nat → Nat → Nat} {P : Nat → List Nat} {op : Nat → Bool} {day cur s : Nat} {row : Nat → Nat} (hg : g_ld l P) (hl : pm_ld τ l P) (ho : pm_op τ l op) (hv : pm_vw τ l day cur row s) (hr : g_rk cur row) (hd : day ≤ 100000) (hf : row 0 < l 0 0) :
    ∃ τ', F_X11_gapFor τ (nI s) = some (oI (g_choice l P op day cur row s), τ') ∧ pm_sm [73] [48, 54, 55, 56, 101] τ τ' := by
  obtain ⟨τ1, p1, p2⟩ := pm_stay hg hl hv hr hd hf
  unfold F_X11_gapFor g_choice
  rw [p1]
  dsimp only [Option.bind]
  by_cases hs : g_stays l P day cur row s = true
  · rw [if_pos hs, if_neg (by decide), if_pos hs]
    exact ⟨τ1, rfl, p2⟩
  · rw [if_neg hs, if_pos rfl, if_neg hs]
    have ho' : pm_op τ1 l op := fun k hk => by rw [p2.r (by decide) (by decide)]; exact ho k hk
    obtain ⟨τ2, q1, q2⟩ := pm_gloop hg hr hd (l 0 1) sw_fuel 0 τ1 0 (hl.mv p2 (by unfold pm_LS; decide)) ho' (hv.mv p2 (by decide) (by decide)) (by omega) (by have := sw_fuel_ge; have := hg.2.1; omega) rfl
    exact ⟨τ2, q1, p2.trans q2⟩

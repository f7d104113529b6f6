/-! Days of all sheep, on both sides. -/
def g_ch (l : Nat → Nat → Nat) (P : Nat → List Nat) (D : g_D) (s : Nat) : Option Nat := g_choice l P (fun k => (D.1 2).testBit k) (D.1 0) (l 3 (2 * s + 1)) (D.2.1 s) s
def g_sg (l : Nat → Nat → Nat) (P : Nat → List Nat) (D : g_D) (s : Nat) : g_D := match g_ch l P D s with
  | none => D
  | some k => (D.1, (g_dr D s (g_pass l (D.2.1 s) k)).2.1, g_kpush D.2.2 (D.1 0, s, k, g_pass l (D.2.1 s) k 1))
def g_sc (l : Nat → Nat → Nat) (P : Nat → List Nat) (D : g_D) (s : Nat) : Nat := match g_ch l P D s with
  | none => 0
  | some _ => 1
def g_dl (l : Nat → Nat → Nat) (P : Nat → List Nat) : Nat → Nat → g_D → Nat → g_D × Nat
  | 0, _, D, c => (D, c)
  | n + 1, s, D, c => g_dl l P n (s + 1) (g_sg l P D s) (c + g_sc l P D s)
theorem g_sg_1 (l : Nat → Nat → Nat) (P : Nat → List Nat) (D : g_D) (s : Nat) : (g_sg l P D s).1 = D.1 := by
  unfold g_sg
  split <;> rfl
theorem g_dl_1 (l : Nat → Nat → Nat) (P : Nat → List Nat) : ∀ (n s : Nat) (D : g_D) (c : Nat), (g_dl l P n s D c).1.1 = D.1
  | 0, _, _, _ => rfl
  | n + 1, s, D, c => by
    unfold g_dl
    rw [g_dl_1 l P n, g_sg_1]
theorem g_dl_c (l : Nat → Nat → Nat) (P : Nat → List Nat) : ∀ (n s : Nat) (D : g_D) (c : Nat), (g_dl l P n s D c).2 ≤ c + n
  | 0, _, _, _ => Nat.le_refl _
  | n + 1, s, D, c => by
    unfold g_dl
    have := g_dl_c l P n (s + 1) (g_sg l P D s) (c + g_sc l P D s)
    have h2 : g_sc l P D s ≤ 1 := by unfold g_sc; split <;> omega
    omega
/-- counting may begin anywhere -/
theorem g_dl_add (l : Nat → Nat → Nat) (P : Nat → List Nat) : ∀ (n s : Nat) (D : g_D) (c : Nat), g_dl l P n s D c = ((g_dl l P n s D 0).1, c + (g_dl l P n s D 0).2)
  | 0, _, _, _ => rfl
  | n + 1, s, D, c => by
    unfold g_dl
    rw [g_dl_add l P n (s + 1) (g_sg l P D s) (c + g_sc l P D s), g_dl_add l P n (s + 1) (g_sg l P D s) (0 + g_sc l P D s)]
    simp
    omega
theorem g_sg_dk {l : Nat → Nat → Nat} {P : Nat → List Nat} {D : g_D} {s : Nat} (hg : g_ld l P) (h : g_dk l D) (hs : s < l 0 2) : g_dk l (g_sg l P D s) := by
  have g2 := hg.2.2.1
  have g1 := hg.2.1
  obtain ⟨hr, hf⟩ := h.2.2.2.1 s hs
  unfold g_sg
  cases hc : g_ch l P D s with
  | none => exact h
  | some k =>
    obtain ⟨h1, h2, b, hb⟩ := g_choice_lt hc
    have hr2 := g_pass_rk hg h1 hr
    have hf2 : g_pass l (D.2.1 s) k 0 < l 0 0 := by
      unfold g_pass
      rw [hb]
      exact (g_bey_lt hg h1 hb).1
    have hd := h.row (s := s) hr2 hf2 (g_pass_z hb (g_bey_lt hg h1 hb).1 (fun j h1 h2 => h.2.2.2.2.2.2 s j hs h1 h2))
    refine ⟨hd.1, hd.2.1, hd.2.2.1, hd.2.2.2.1, ?_, fun x hx => ?_, hd.2.2.2.2.2.2⟩
    · dsimp only
      rw [g_kpush_len h.2.2.2.2.1]
      omega
    · rcases g_kpush_mem hx with z | z
      · exact h.2.2.2.2.2.1 x z
      · rw [z]
        have := h.1
        exact ⟨h.1, by dsimp only; omega, by dsimp only; omega, hr2.2.2.1⟩
theorem g_dl_dk {l : Nat → Nat → Nat} {P : Nat → List Nat} (hg : g_ld l P) : ∀ (n s : Nat) (D : g_D) (c : Nat), g_dk l D → s + n ≤ l 0 2 → g_dk l (g_dl l P n s D c).1
  | 0, _, _, _, h, _ => h
  | n + 1, s, D, c, h, hs => g_dl_dk hg n (s + 1) _ _ (g_sg_dk hg h (by omega)) (by omega)
def g_day (l : Nat → Nat → Nat) (P : Nat → List Nat) (D : g_D) : g_D := g_d1 (g_dl l P (l 0 2) 0 D 0).1 0 (D.1 0 + 1)
def g_dayc (l : Nat → Nat → Nat) (P : Nat → List Nat) (D : g_D) : Nat := (g_dl l P (l 0 2) 0 D 0).2
theorem g_day_dk {l : Nat → Nat → Nat} {P : Nat → List Nat} {D : g_D} (hg : g_ld l P) (h : g_dk l D) (hd : D.1 0 + 1 ≤ 999) : g_dk l (g_day l P D) := by
  have h1 := g_dl_dk hg (l 0 2) 0 D 0 h (by omega)
  exact ⟨hd, h1.2.1, h1.2.2.1, h1.2.2.2⟩
/-- one sheep strays, or not -/
theorem px_sg {σ : sw_St} {w s : Nat} {l : Nat → Nat → Nat} {P : Nat → List Nat} {D : g_D} {c3 : sw_St → Nat → Int32 → Int32 → Option (Int32 × sw_St)} {x2 : Int32} (hg : g_ld l P) (hl : px_ld σ w l P) (hD : px_st σ 38 l D) (hk : g_dk l D) (hs : s < l 0 2) (ht : σ.1 34 2 = nI 0) :
    ∃ σ', S_X2_passDay_4 c3 σ 38 x2 (nI s) = c3 σ' 38 (x2 + nI (g_sc l P D s)) (nI (s + 1)) ∧ px_st σ' 38 l (g_sg l P D s) ∧ pz_sm [34, 35, 36, 37, 38, 39, 40, 41, 44, 45] σ σ' ∧ σ'.1 34 2 = nI 0 := by
  have g1 := hg.2.1
  have g2 := hg.2.2.1
  have hoL := hk.2.2.1
  have h2p : 2 ^ l 0 1 ≤ 2 ^ 10 := Nat.pow_le_pow_right (by omega) g1
  obtain ⟨hr, hf⟩ := hk.2.2.2.1 s hs
  have hd := hk.1
  have hxv := hD.vw (Or.inl rfl) hs g2
  obtain ⟨Bt, σ1, σ2, c1, c2, c4, c5, c6⟩ := px_choice (B := []) hg hl hxv hr (by omega) hf (show D.1 2 < 1024 by omega) (by simp) trivial ht
  have eC : F_X2_choice σ 38 (nI s) = some (oI (g_ch l P D s), σ2) := by
    unfold F_X2_choice
    rw [if_pos (st_O (Or.inl rfl)), hxv.2.2.2.1, show (0 : Int32) = nI 0 from rfl, c1]
    dsimp only [Option.bind]
    rw [c2]
    rfl
  have hl2 := hl.mv c4 (by decide)
  have hD2 : px_st σ2 38 l D := hD.mv (fun j hj => (c4 _ (by simp; omega)).1)
  have hxv2 := hD2.vw (Or.inl rfl) hs g2
  unfold S_X2_passDay_4 S_X2_passDay_47 g_sg g_sc
  rw [hl.2.1]
  dsimp only [Option.bind]
  rw [if_pos (ld_O hl.1), hl.2.2.2.2.1, if_neg (nI_ge hs (by omega)), eC]
  dsimp only
  cases hc : g_ch l P D s with
  | none =>
    rw [if_pos (by rfl), nI_1, show x2 + nI 0 = x2 from Int32.add_zero x2]
    exact ⟨σ2, rfl, hD2, c4.mono (by decide), c6⟩
  | some k =>
    obtain ⟨h1, h2, b, hb⟩ := g_choice_lt hc
    obtain ⟨σ3, p1, p2, p3, p4, -⟩ := px_pass hg hl2 hxv2 hr h1 hb
    have hD3 : px_st σ3 38 l (g_dr D s (g_pass l (D.2.1 s) k)) := hD2.row p3 (by decide) ⟨p2.2.2.2.2.1, p2.2.2.2.2.2.1, p2.2.2.2.2.2.2.1, p2.2.2.2.2.2.2.2.1, p2.2.2.2.2.2.2.2.2.1, p2.2.2.2.2.2.2.2.2.2⟩ (fun t htt hne => by
      have := p4 t _ _ hne (hD2.vw (Or.inl rfl) htt g2)
      exact ⟨this.2.2.2.2.1, this.2.2.2.2.2.1, this.2.2.2.2.2.2.1, this.2.2.2.2.2.2.2.1, this.2.2.2.2.2.2.2.2.1, this.2.2.2.2.2.2.2.2.2⟩)
    have hr2 := g_pass_rk hg h1 hr
    obtain ⟨σ4, q1, q2, q3, q4⟩ := px_keep (s := s) (k := k) (wool := g_pass l (D.2.1 s) k 1) (day := D.1 0) hD3.2.2.2.2 hk.2.2.2.2.1 hD3.1 p2.2.2.2.2.2.1 (by omega) ⟨hk.1, by dsimp only; omega, by dsimp only; omega, hr2.2.2.1⟩
    have m4 : pz_sm [34, 35, 36, 37, 38, 39, 40, 41, 44, 45] σ σ4 := (c4.mono (by decide)).trans ((p3.mono (by decide)).trans (q3.mono (by decide)))
    rw [if_neg (by exact pz_nm1 (by omega)), show oI (some k) = nI k from rfl, p1]
    dsimp only
    rw [if_pos (st_O (Or.inl rfl)), q1]
    dsimp only
    rw [nI_1]
    refine ⟨σ4, rfl, ⟨by rw [q4 0 (by decide) (by decide)]; exact hD3.1, by rw [q4 1 (by decide) (by decide)]; exact hD3.2.1, by rw [q4 2 (by decide) (by decide)]; exact hD3.2.2.1, fun t htt => ?_, q2⟩, m4, by rw [q3.r (by decide), p3.r (by decide)]; exact c6⟩
    have := hD3.2.2.2.1 t htt
    unfold px_sh at this ⊢
    rw [(q3 (38 + 1) (by decide)).1, (q3 (38 + 2) (by decide)).1, (q3 (38 + 3) (by decide)).1, (q3 (38 + 4) (by decide)).1, (q3 (38 + 5) (by decide)).1, (q3 (38 + 6) (by decide)).1]
    exact this
theorem px_dloop {w : Nat} {l : Nat → Nat → Nat} {P : Nat → List Nat} (hg : g_ld l P) : ∀ (n fuel s c : Nat) (D : g_D) (σ : sw_St), px_ld σ w l P → px_st σ 38 l D → g_dk l D → s + n = l 0 2 → n < fuel → σ.1 34 2 = nI 0 → D.1 0 + 1 ≤ 999 →
    ∃ σ', L_X2_passDay_4 fuel σ 38 (nI c) (nI s) = some (nI (g_dl l P n s D c).2, σ') ∧ px_st σ' 38 l (g_d1 (g_dl l P n s D c).1 0 (D.1 0 + 1)) ∧ pz_sm [34, 35, 36, 37, 38, 39, 40, 41, 44, 45] σ σ' ∧ σ'.1 34 2 = nI 0
  | 0, fuel + 1, s, c, D, σ, hl, hD, hk, hs, hf, ht, hd => by
    have g2 := hg.2.2.1
    have hmin : F_J9_min_7cf53 σ 999 (nI (D.1 0) + 1) = some (nI (D.1 0 + 1), σ) := by
      rw [nI_1]
      have := px_min (σ := σ) (a := 999) (n := D.1 0 + 1) (by omega) (by omega)
      rw [Nat.min_eq_right (by omega)] at this
      exact this
    have ms : pz_sm [38] σ (sw_uI σ 38 0 (nI (D.1 0 + 1))) := (pz_sm.refl _ σ).I (by decide) _ _
    refine ⟨sw_uI σ 38 0 (nI (D.1 0 + 1)), ?_, ?_, ms.mono (by decide), by rw [ms.r (by decide)]; exact ht⟩
    · show S_X2_passDay_4 _ σ 38 (nI c) (nI s) = _
      unfold S_X2_passDay_4
      rw [hl.2.1]
      dsimp only [Option.bind]
      rw [if_pos (ld_O hl.1), hl.2.2.2.2.1, if_pos (nI_le (by omega) (by omega)), if_pos (st_O (Or.inl rfl)), hD.1, hmin]
      dsimp only
      rw [if_pos (st_O (Or.inl rfl))]
      rfl
    · obtain ⟨c1, c2, c3, c4, kf, d1, d2, d3, d4⟩ := hD
      refine ⟨pz_Ie rfl rfl, by rw [pz_Ik (by decide)]; exact c2, by rw [pz_Ik (by decide)]; exact c3, fun t htt => ?_, kf, d1, by rw [pz_Ik (by decide)]; exact d2, by rw [pz_Ik (by decide)]; exact d3, fun i hi => by rw [pz_Io (by decide)]; exact d4 i hi⟩
      have := c4 t htt
      unfold px_sh at this ⊢
      rw [(ms (38 + 1) (by decide)).1, (ms (38 + 2) (by decide)).1, (ms (38 + 3) (by decide)).1, (ms (38 + 4) (by decide)).1, (ms (38 + 5) (by decide)).1, (ms (38 + 6) (by decide)).1]
      exact this
  | n + 1, fuel + 1, s, c, D, σ, hl, hD, hk, hs, hf, ht, hd => by
    obtain ⟨σ1, p1, p2, p3, p4⟩ := px_sg (c3 := fun σ o1 x2 x3 => L_X2_passDay_4 fuel σ o1 x2 x3) (x2 := nI c) hg hl hD hk (show s < l 0 2 by omega) ht
    have e1 := g_sg_1 l P D s
    obtain ⟨σ2, q1, q2, q3, q4⟩ := px_dloop hg n fuel (s + 1) (c + g_sc l P D s) (g_sg l P D s) σ1 (hl.mv p3 (by decide)) p2 (g_sg_dk hg hk (by omega)) (by omega) (by omega) p4 (by rw [e1]; exact hd)
    refine ⟨σ2, ?_, by rw [e1] at q2; exact q2, p3.trans q3, q4⟩
    show S_X2_passDay_4 _ σ 38 (nI c) (nI s) = _
    rw [p1, nI_add]
    exact q1
theorem px_passDay {σ : sw_St} {w : Nat} {l : Nat → Nat → Nat} {P : Nat → List Nat} {D : g_D} (hg : g_ld l P) (hl : px_ld σ w l P) (hD : px_st σ 38 l D) (hk : g_dk l D) (ht : σ.1 34 2 = nI 0) (hd : D.1 0 + 1 ≤ 999) : ∃ σ', F_X2_passDay σ 38 = some (nI (g_dayc l P D), σ') ∧ px_st σ' 38 l (g_day l P D) ∧ pz_sm [34, 35, 36, 37, 38, 39, 40, 41, 44, 45] σ σ' ∧ σ'.1 34 2 = nI 0 :=
  px_dloop hg (l 0 2) sw_fuel 0 0 D σ hl hD hk (by omega) (by have := sw_fuel_ge; have := hg.2.2.1; omega) ht hd
theorem pm_sg {τ : sw_St} {s : Nat} {l : Nat → Nat → Nat} {P : Nat → List Nat} {D : g_D} (hg : g_ld l P) (hl : pm_ld τ l P) (hD : pm_st τ 37 0 l D) (hk : g_dk l D) (hs : s < l 0 2) (h52 : τ.1 0 52 = -1) (h58 : τ.1 0 58 = 0) :
    ∃ τ', F_X11_sheepGoes τ (nI s) = some ((), τ') ∧ pm_st τ' 37 0 l (g_sg l P D s) ∧ pm_sm [37, 73] [48, 54, 55, 56, 59, 101] τ τ' ∧ τ'.1 0 59 = τ.1 0 59 + nI (g_sc l P D s) := by
  have g1 := hg.2.1
  have g2 := hg.2.2.1
  obtain ⟨hr, hf⟩ := hk.2.2.2.1 s hs
  have hd := hk.1
  have hmv := hD.vw hl hs g2 h52
  obtain ⟨τ1, p1, p2⟩ := pm_gapFor hg hl hD.op hmv hr (by omega) hf
  have hl1 := hl.mv p2 (by unfold pm_LS; decide)
  have hD1 := hD.mvr (p2.1 37 (by decide) (by decide)).1
  unfold F_X11_sheepGoes g_sg g_sc
  rw [p1]
  dsimp only [Option.bind]
  cases hc : g_ch l P D s with
  | none =>
    rw [show g_choice l P (fun k => (D.1 2).testBit k) (D.1 0) (l 3 (2 * s + 1)) (D.2.1 s) s = none from hc, if_pos (by rfl)]
    exact ⟨τ1, rfl, hD1, p2.mono (by decide) (by decide), by rw [p2.2.1 59 (by decide)]; exact (Int32.add_zero _).symm⟩
  | some k =>
    obtain ⟨h1, h2, b, hb⟩ := g_choice_lt hc
    have hmv1 := hmv.mv p2 (by decide) (by decide)
    obtain ⟨τ2, q1, q2, q3, q4⟩ := pm_goes hg hl1 hD1.op hmv1 hr h1 h2 hb
    have hD2 : pm_st τ2 37 0 l (g_dr D s (g_pass l (D.2.1 s) k)) := hD1.row g1 g2 (by omega) q4 q2.2.2.1
    have m3 : pm_sm [] [59] τ2 (sw_uI τ2 0 59 (τ2.1 0 59 + 1)) := (pm_sm.refl _ _ τ2).K (by decide) _
    have hD3 : pm_st (sw_uI τ2 0 59 (τ2.1 0 59 + 1)) 37 0 l (g_dr D s (g_pass l (D.2.1 s) k)) := hD2.mvr (m3.1 37 (by decide) (by decide)).1
    have hw : (sw_uI τ2 0 59 (τ2.1 0 59 + 1)).1 37 (13 + 12 * s) = nI (g_pass l (D.2.1 s) k 1) := by
      rw [pz_Io (by decide), show 13 + 12 * s = 12 + 12 * s + 1 by omega]
      exact q2.2.2.1 1 (by omega)
    obtain ⟨τ3, r1, r2, r3⟩ := pm_isKept (s := s) (k := k) hD3 g1 g2 hk.2.2.2.2.1 (by omega) hw (by rw [m3.2.1 58 (by decide), q3.2.1 58 (by decide), p2.2.1 58 (by decide)]; exact h58)
    rw [show g_choice l P (fun k => (D.1 2).testBit k) (D.1 0) (l 3 (2 * s + 1)) (D.2.1 s) s = some k from hc, if_neg (by exact pz_nm1 (by omega)), show oI (some k) = nI k from rfl, q1]
    dsimp only
    rw [r1]
    refine ⟨τ3, rfl, r2, (((p2.mono (by decide) (by decide)).trans (q3.mono (by decide) (by decide))).trans (m3.mono (by decide) (by decide))).trans (r3.mono (by decide) (by decide)), ?_⟩
    rw [r3.2.1 59 (by decide), pz_Ie rfl rfl, q3.2.1 59 (by decide), p2.2.1 59 (by decide)]
    rfl
theorem pm_dloop {l : Nat → Nat → Nat} {P : Nat → List Nat} (hg : g_ld l P) : ∀ (n fuel s c : Nat) (D : g_D) (τ : sw_St), pm_ld τ l P → pm_st τ 37 0 l D → g_dk l D → s + n = l 0 2 → n < fuel → τ.1 0 52 = -1 → τ.1 0 58 = 0 → τ.1 0 59 = nI c →
    ∃ τ', L_X11_dayGoes_2 fuel τ (nI s) = some ((), τ') ∧ pm_st τ' 37 0 l (g_d1 (g_dl l P n s D c).1 0 (D.1 0 + 1)) ∧ pm_sm [37, 73] [48, 54, 55, 56, 59, 101] τ τ' ∧ τ'.1 0 59 = nI (g_dl l P n s D c).2
  | 0, fuel + 1, s, c, D, τ, hl, hD, hk, hs, hf, h52, h58, h59 => by
    have g2 := hg.2.2.1
    have hd := hk.1
    refine ⟨sw_uI τ 37 0 (nI (D.1 0 + 1)), ?_, ?_, (pm_sm.refl _ _ τ).I (by decide) (by decide) _ _, by rw [pz_Io (by decide)]; exact h59⟩
    · show S_X11_dayGoes_2 _ τ (nI s) = _
      unfold S_X11_dayGoes_2 F_X11_sheepMany
      dsimp only [Option.bind]
      rw [hl.2.2.1, if_pos (nI_le (by omega) (by omega)), hD.1, nI_1]
    · obtain ⟨c1, c2, c3, c4, c5, c6⟩ := hD
      refine ⟨pz_Ie rfl rfl, by rw [pz_Ik (by omega)]; exact c2, fun j hj => by rw [pz_Ik (by omega)]; exact c3 j hj, fun t j htt hj => by rw [pz_Ik (by omega)]; exact c4 t j htt hj, by rw [pz_Ik (by omega)]; exact c5, fun i hi => ?_⟩
      rw [pz_Ik (by omega), pz_Ik (by omega), pz_Ik (by omega), pz_Ik (by omega)]
      exact c6 i hi
  | n + 1, fuel + 1, s, c, D, τ, hl, hD, hk, hs, hf, h52, h58, h59 => by
    have g2 := hg.2.2.1
    obtain ⟨τ1, p1, p2, p3, p4⟩ := pm_sg hg hl hD hk (show s < l 0 2 by omega) h52 h58
    have e1 := g_sg_1 l P D s
    obtain ⟨τ2, q1, q2, q3, q4⟩ := pm_dloop hg n fuel (s + 1) (c + g_sc l P D s) (g_sg l P D s) τ1 (hl.mv p3 (by unfold pm_LS; decide)) p2 (g_sg_dk hg hk (by omega)) (by omega) (by omega) (by rw [p3.2.1 52 (by decide)]; exact h52) (by rw [p3.2.1 58 (by decide)]; exact h58) (by rw [p4, h59, nI_add])
    refine ⟨τ2, ?_, by rw [e1] at q2; exact q2, p3.trans q3, q4⟩
    show S_X11_dayGoes_2 _ τ (nI s) = _
    unfold S_X11_dayGoes_2 F_X11_sheepMany
    dsimp only [Option.bind]
    rw [hl.2.2.1, if_neg (nI_ge (by omega) (by omega)), p1]
    dsimp only
    rw [nI_1]
    exact q1
theorem pm_dayGoes {τ : sw_St} {l : Nat → Nat → Nat} {P : Nat → List Nat} {D : g_D} {c : Nat} (hg : g_ld l P) (hl : pm_ld τ l P) (hD : pm_st τ 37 0 l D) (hk : g_dk l D) (h52 : τ.1 0 52 = -1) (h58 : τ.1 0 58 = 0) (h59 : τ.1 0 59 = nI c) : ∃ τ', F_X11_dayGoes τ = some ((), τ') ∧ pm_st τ' 37 0 l (g_day l P D) ∧ pm_sm [37, 73] [48, 54, 55, 56, 59, 101] τ τ' ∧ τ'.1 0 59 = nI (c + g_dayc l P D) := by
  obtain ⟨τ', p1, p2, p3, p4⟩ := pm_dloop hg (l 0 2) sw_fuel 0 c D τ hl hD hk (by omega) (by have := sw_fuel_ge; have := hg.2.2.1; omega) h52 h58 h59
  rw [g_dl_add] at p2 p4
  exact ⟨τ', p1, p2, p3, p4⟩

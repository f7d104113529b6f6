/-! Home, waits, shear, undo. -/
def g_hm (l : Nat → Nat → Nat) (P : Nat → List Nat) (op : Nat → Bool) (cur s hm : Nat) : Nat → Nat → Nat → (Nat → Nat) → Option Nat
  | 0, _, _, _ => none
  | n + 1, d, day, row => if g_step l P op day cur row s 0 = hm then some d else g_hm l P op cur s hm n (d + 1) (day + 1) (g_step l P op day cur row s)
theorem px_go1 {σ : sw_St} {w q opn cur s day : Nat} {row : Nat → Nat} {l : Nat → Nat → Nat} {P : Nat → List Nat} {B : List Int} (hg : g_ld l P) (ho : opn < 1024) (hB : B.length ≤ 100) (hl : px_ld σ w l P) (hv : px_vw σ q day opn cur row s) (hr : g_rk cur row) (hf : row 0 < l 0 0) (hsk : px_sk σ B) (htp : σ.1 34 2 = nI B.length) (hd : day + 1 ≤ 999) :
    ∃ σ', F_X2_goOn σ q (nI s) 1 = some ((), σ') ∧ px_vw σ' q (day + 1) opn cur (g_step l P (fun k => opn.testBit k) day cur row s) s ∧ pz_sm [34, 35, 36, 37, q, q + 1, q + 2, q + 3, q + 6] σ σ' ∧ px_sk σ' B ∧ σ'.1 34 2 = nI B.length := by
  obtain ⟨σ', p1, p2, p3, p4, p5⟩ := px_goOn (N := 1) hg ho hB (by omega) 1 sw_fuel 0 day row σ hl hv hr hf hsk htp (by omega) (by have := sw_fuel_ge; omega) hd
  exact ⟨σ', p1, p2, p3, p4, p5⟩
theorem pm_go1 {τ : sw_St} {l : Nat → Nat → Nat} {P : Nat → List Nat} {op : Nat → Bool} {cur s day : Nat} {row : Nat → Nat} (hg : g_ld l P) (hl : pm_ld τ l P) (ho : pm_op τ l op) (hv : pm_vw τ l day cur row s) (hr : g_rk cur row) (hf : row 0 < l 0 0) (ht : τ.1 0 58 = 1) (hd : day + 1 ≤ 100000) :
    ∃ τ', F_X11_oneGoes τ (nI s) 1 = some ((), τ') ∧ pm_vw τ' l (day + 1) cur (g_step l P op day cur row s) s ∧ pm_sm [37, 73] [48, 54, 55, 56, 59, 101] τ τ' ∧ (∀ i, 0 < i → i < 12 + 12 * s ∨ 24 + 12 * s ≤ i → τ'.1 37 i = τ.1 37 i) := by
  obtain ⟨τ', p1, p2, p3, p4⟩ := pm_oneGoes (N := 1) hg (by omega) 1 sw_fuel 0 day row τ hl ho hv hr hf ht (by omega) (by have := sw_fuel_ge; omega) hd
  exact ⟨τ', p1, p2, p3, p4⟩
theorem px_hloop {w opn cur s most : Nat} {l : Nat → Nat → Nat} {P : Nat → List Nat} (hg : g_ld l P) (ho : opn < 1024) (hs : s < l 0 2) (hmo : most ≤ 60) : ∀ (n fuel d day : Nat) (row : Nat → Nat) (σ : sw_St), px_ld σ w l P → px_vw σ 46 day opn cur row s → g_rk cur row → row 0 < l 0 0 → σ.1 34 2 = nI 0 → d + n = most + 1 → n < fuel → day + n ≤ 999 →
    ∃ σ', L_X1_daysToHome_21 fuel σ (nI s) (nI most) (nI d) = some (oI (g_hm l P (fun k => opn.testBit k) cur s (l 3 (2 * s)) n d day row), σ') ∧ pz_sm [34, 35, 36, 37, 46, 47, 48, 49, 52] σ σ' ∧ σ'.1 34 2 = nI 0
  | 0, fuel + 1, d, day, row, σ, hl, hv, hr, hf, ht, hd, hfu, hday => by
    refine ⟨σ, ?_, pz_sm.refl _ _, ht⟩
    show S_X1_daysToHome_21 _ σ (nI s) (nI most) (nI d) = _
    unfold S_X1_daysToHome_21
    rw [if_pos (nI_lt (by omega) (by omega))]
    rfl
  | n + 1, fuel + 1, d, day, row, σ, hl, hv, hr, hf, ht, hd, hfu, hday => by
    have g2 := hg.2.2.1
    have g0 := hg.1
    obtain ⟨σ1, p1, p2, p3, p4, p5⟩ := px_go1 (B := []) hg ho (by simp) hl hv hr hf trivial ht (by omega)
    have hl1 := hl.mv p3 (by decide)
    have hf1 := g_step_f (P := P) (op := fun k => opn.testBit k) (day := day) (cur := cur) (s := s) hg hf
    have hhm := (hg.2.2.2.2.2.2.1 s hs).1
    show ∃ σ', S_X1_daysToHome_21 _ σ (nI s) (nI most) (nI d) = _ ∧ _
    unfold S_X1_daysToHome_21
    rw [if_neg (nI_nlt (by omega) (by omega)), p1]
    dsimp only [Option.bind]
    rw [if_pos (pz_inb (show s < 6 by omega) (by omega)), hl1.2.1]
    dsimp only
    rw [if_pos (ld_O hl.1), if_pos (ld_A7 hl.1), ld_n7 hl.1, if_pos (pz_inb (show s < 6 by omega) (by omega)), nI_clamp (by omega), (hl1.2.2.2.2.2.2.2.2.1 s hs).1, p2.2.2.2.2.1]
    unfold g_hm
    by_cases e : g_step l P (fun k => opn.testBit k) day cur row s 0 = l 3 (2 * s)
    · rw [if_pos e, if_pos (by rw [e])]
      exact ⟨σ1, rfl, p3, p5⟩
    · rw [if_neg e, if_neg (by rw [nI_eq (by omega) (by omega)]; exact e), nI_1]
      obtain ⟨σ2, q1, q2, q3⟩ := px_hloop hg ho hs hmo n fuel (d + 1) (day + 1) _ σ1 hl1 p2 (g_step_rk hg hr) hf1 p5 (by omega) (by omega) (by omega)
      exact ⟨σ2, q1, p3.trans q2, q3⟩
theorem pm_hend {τ τ' : sw_St} {s : Nat} {x2 x3 : Int32} {fuel : Nat} (u1 : F_X11_takesBack τ = some ((), τ')) (h : ¬ x2 = -1) : L_X11_home_18 (fuel + 1) τ (nI s) x2 x3 = some (x2, τ') := by
  show S_X11_home_18 _ τ (nI s) x2 x3 = _
  unfold S_X11_home_18 S_X11_home_68
  rw [u1]
  dsimp only [Option.bind]
  split
  · rfl
  · split
    · rfl
    · first | rfl | rw [if_neg h]
theorem pm_hloop {cur s : Nat} {l : Nat → Nat → Nat} {P : Nat → List Nat} {op : Nat → Bool} (hg : g_ld l P) (hs : s < l 0 2) : ∀ (n fuel d day : Nat) (row : Nat → Nat) (τ : sw_St), pm_ld τ l P → pm_op τ l op → pm_vw τ l day cur row s → g_rk cur row → row 0 < l 0 0 → τ.1 0 58 = 1 → n = min (61 - d) (999 - day) → d ≤ 61 → n + 1 < fuel → day ≤ 999 →
    ∃ τ2, (∃ τ', F_X11_takesBack τ2 = some ((), τ') ∧ L_X11_home_18 fuel τ (nI s) (-1) (nI d) = some (oI (g_hm l P op cur s (l 3 (2 * s)) n d day row), τ')) ∧ pm_sm [37, 73] [48, 54, 55, 56, 59, 101] τ τ2 ∧ (∀ i, 84 ≤ i → τ2.1 37 i = τ.1 37 i)
  | 0, fuel + 1, d, day, row, τ, hl, ho, hv, hr, hf, ht, hn, hd, hfu, hday => by
    obtain ⟨τ', u1, -⟩ := pm_back τ
    refine ⟨τ, ⟨τ', u1, ?_⟩, pm_sm.refl _ _ _, fun _ _ => rfl⟩
    show S_X11_home_18 _ τ (nI s) (-1) (nI d) = _
    unfold S_X11_home_18 S_X11_home_68
    rw [hv.2.1, u1]
    dsimp only [Option.bind]
    by_cases h1 : 60 < d
    · rw [if_pos (show (60 : Int32) < nI d from nI_lt (a := 60) h1 (by omega))]
      rfl
    · rw [if_neg (show ¬ (60 : Int32) < nI d from nI_nlt (b := d) (a := 60) (by omega) (by omega)), if_pos (show (999 : Int32) ≤ nI day from nI_le (a := 999) (by omega) (by omega))]
      rfl
  | n + 1, fuel + 1, d, day, row, τ, hl, ho, hv, hr, hf, ht, hn, hd, hfu, hday => by
    have g2 := hg.2.2.1
    have g1 := hg.2.1
    have g0 := hg.1
    obtain ⟨τ1, p1, p2, p3, p4⟩ := pm_go1 hg hl ho hv hr hf ht (by omega)
    have hl1 := hl.mv p3 (by unfold pm_LS; decide)
    have ho1 : pm_op τ1 l op := fun k hk => by rw [p4 _ (by omega) (by omega)]; exact ho k hk
    have hf1 := g_step_f (P := P) (op := op) (day := day) (cur := cur) (s := s) hg hf
    have hhm := (hg.2.2.2.2.2.2.1 s hs).1
    have e7 : F_X11_homeOf τ1 (nI s) = some (nI (l 3 (2 * s)), τ1) := by
      unfold F_X11_homeOf
      rw [pm_ix, if_pos (pz_inb (by omega) (by omega)), nI_clamp (by omega), hl1.2.2.2.2.2.2.1 _ (by omega)]
    have e0 : τ1.1 37 (12 + 12 * s) = nI (g_step l P op day cur row s 0) := p2.2.2.1 0 (by omega)
    have go : S_X11_home_18 (fun σ x1 x2 x3 => L_X11_home_18 fuel σ x1 x2 x3) τ (nI s) (-1) (nI d) = if nI (g_step l P op day cur row s 0) = nI (l 3 (2 * s)) then L_X11_home_18 fuel τ1 (nI s) (nI d) (nI (d + 1)) else L_X11_home_18 fuel τ1 (nI s) (-1) (nI (d + 1)) := by
      unfold S_X11_home_18 S_X11_home_62
      rw [hv.2.1, if_neg (show ¬ (60 : Int32) < nI d from nI_nlt (b := d) (a := 60) (by omega) (by omega)), if_neg (show ¬ (999 : Int32) ≤ nI day from nI_ge (b := 999) (by omega) (by omega)), if_pos rfl, p1]
      dsimp only [Option.bind]
      rw [pm_fieldOf (by omega)]
      dsimp only
      rw [e7, e0, nI_1]
    show ∃ τ2, (∃ τ', _ ∧ S_X11_home_18 _ τ (nI s) (-1) (nI d) = _) ∧ _
    rw [go]
    unfold g_hm
    by_cases e : g_step l P op day cur row s 0 = l 3 (2 * s)
    · rw [if_pos e, if_pos (by rw [e])]
      obtain ⟨τ', u1, -⟩ := pm_back τ1
      cases fuel with
      | zero => omega
      | succ fuel => exact ⟨τ1, ⟨τ', u1, pm_hend u1 (pz_nm1 (by omega))⟩, p3, fun i hi => p4 i (by omega) (by omega)⟩
    · rw [if_neg e, if_neg (by rw [nI_eq (by omega) (by omega)]; exact e)]
      obtain ⟨τ2, q1, q2, q3⟩ := pm_hloop hg hs n fuel (d + 1) (day + 1) _ τ1 hl1 ho1 p2 (g_step_rk hg hr) hf1 (by rw [p3.2.1 58 (by decide)]; exact ht) (by omega) (by omega) (by omega) (by omega)
      exact ⟨τ2, q1, p3.trans q2, fun i hi => by rw [q3 i hi, p4 i (by omega) (by omega)]⟩
theorem op_14 : ll_14 RR := by
  intro x m hR a
  obtain ⟨w, l, P, nm, D, U, F, T, sd, rf, ft, im, hG, hX, hM⟩ := hR
  have hR : RR x m := ⟨w, l, P, nm, D, U, F, T, sd, rf, ft, im, hG, hX, hM⟩
  have g1 := hG.1.2.1
  have g2 := hG.1.2.2.1
  have hd := hG.2.2.1.1
  have hoL := hG.2.2.1.2.2.1
  have h2p : 2 ^ l 0 1 ≤ 2 ^ 10 := Nat.pow_le_pow_right (by omega) g1
  unfold F_X10_home F_X11_home S_X10_home_20
  rw [px_isSheep hG.1 hX.1, pm_isSheep hG.1 hM.1]
  dsimp only [Option.bind]
  by_cases h : g_in a (l 0 2) = true
  · obtain ⟨s, hs, rfl⟩ := g_in_of h
    obtain ⟨hr, hf⟩ := hG.2.2.1.2.2.2.1 s hs
    have hxv := hX.2.2.2.1.vw (Or.inl rfl) hs g2
    have hmv := hM.2.2.1.vw hM.1 hs g2 hM.2.2.2.2.2.2.2.2.2.2.1.1
    rw [if_pos h, if_neg pz_10, if_neg pz_10]
    have eD : F_X1_daysAtMost x 60 = some (nI (min 60 (999 - D.1 0)), x) := by
      unfold F_X1_daysAtMost
      rw [hX.2.2.2.1.1, show (999 : Int32) - nI (D.1 0) = nI (999 - D.1 0) from by rw [show (999 : Int32) = nI 999 from rfl, pk_sub (by omega)], show (60 : Int32) = nI 60 from rfl, px_min (by omega) (by omega)]
      rfl
    obtain ⟨σ1, p1, p2, p3⟩ := px_copyOne hxv
    obtain ⟨σ2, q1, q2, q3⟩ := px_hloop (most := min 60 (999 - D.1 0)) hG.1 (show D.1 2 < 1024 by omega) hs (by omega) (min 60 (999 - D.1 0)) sw_fuel 1 (D.1 0) (D.2.1 s) σ1 (hX.1.mv p3 (by decide)) p2 hr hf (by rw [p3.r (by decide)]; exact hX.2.2.2.2.2.2.2.2.2.2.2.1) (by omega) (by have := sw_fuel_ge; omega) (by omega)
    obtain ⟨τ1, r1, r2, r3, r4⟩ := pm_aside m
    have ho2 : pm_op τ1 l (fun k => (D.1 2).testBit k) := fun k hk => by rw [r3.r (by decide) (by decide)]; exact hM.2.2.1.op k hk
    obtain ⟨τ2, ⟨τ3, t1, t2⟩, t3, t4⟩ := pm_hloop hG.1 hs (min 60 (999 - D.1 0)) sw_fuel 1 (D.1 0) (D.2.1 s) τ1 (hM.1.mv r3 (by unfold pm_LS; decide)) ho2 (hmv.mv r3 (by decide) (by decide)) hr hf r4 (by omega) (by omega) (by have := sw_fuel_ge; omega) hd
    obtain ⟨τ4, u1, u2, u3, u4, u5, u6⟩ := pm_back τ2
    have e34 : τ3 = τ4 := by
      rw [t1] at u1
      cases u1
      rfl
    subst e34
    refine ⟨_, σ2, τ3, ?_, by rw [r1]; exact t2, w, l, P, nm, D, U, F, T, sd, rf, ft, im, hG, hX.mv ((p3.mono (by decide)).trans (q2.mono (by decide))) q3, hM.back r2 r3 t3 (by decide) (by decide) (fun i hi => t4 i hi) u2 u3 u4 u5 u6⟩
    unfold F_X1_daysToHome
    rw [eD]
    dsimp only [Option.bind]
    rw [p1]
    dsimp only
    rw [show (1 : Int32) = nI 1 from rfl, q1]
  · rw [if_neg h, if_pos rfl, if_pos rfl]
    exact ⟨-1, x, m, rfl, rfl, hR⟩

/-! More statements of an upland, and all of them: the class. -/
theorem px_gm1 : ∀ n, n < 11 → (nI n - 1).toInt = (n : Int) - 1 := by decide
theorem pu_X_w {σ : sw_St} {w b b' x : Nat} {u : g_U} (hX : pu_X σ w u b) (hb : b ≤ b') : pu_X (sw_uI σ w 4 (nI x)) w (u_w u x) b' ∧ pz_sm [w] σ (sw_uI σ w 4 (nI x)) := by
  obtain ⟨hw, a1, a2, a3, a4, a5, a6, a7, a8, a9, a10, ⟨a11, a12⟩, n0, b1, b2, b3⟩ := hX
  have r : ∀ j k, 1 ≤ j → (sw_uI σ w 4 (nI x)).1 (w + j) k = σ.1 (w + j) k := fun j k hj => pz_Io (by omega) k
  have r0 : ∀ k, k ≠ 4 → (sw_uI σ w 4 (nI x)).1 w k = σ.1 w k := fun k hk => pz_Ik hk w
  have q4 : (sw_uI σ w 4 (nI x)).1 w 4 = nI x := pz_Ie rfl rfl
  refine ⟨⟨hw, a1, by rw [r0 _ (by decide)]; exact a2, by rw [r0 _ (by decide)]; exact a3, by rw [r0 _ (by decide)]; exact a4, q4, by rw [r0 _ (by decide)]; exact a6, by rw [r0 _ (by decide)]; exact a7, fun f hf => by rw [r 2 _ (by decide)]; exact a8 f hf, fun k hk => by rw [r 3 _ (by decide), r 4 _ (by decide), r 5 _ (by decide)]; exact a9 k hk, fun s hs => by rw [r 7 _ (by decide), r 8 _ (by decide)]; exact a10 s hs, ⟨fun f hf => by rw [r 1 _ (by decide)]; exact a11 f hf, fun s hs => by rw [r 6 _ (by decide)]; exact a12 s hs⟩, n0, by rw [r 9 _ (by decide)]; exact b1, by omega, fun j hj => ?_⟩, (pz_sm.refl _ σ).I (by simp) _ _⟩
  obtain ⟨a, c1, c2, c3, c4⟩ := b3 j hj
  exact ⟨a, by rw [r 11 _ (by decide)]; exact c1, by rw [r 12 _ (by decide)]; exact c2, c3, fun i hi => by rw [r 10 _ (by decide)]; exact c4 i hi⟩
theorem pu_X_o {σ : sw_St} {w b b' k : Nat} {u : g_U} (hX : pu_X σ w u b) (hb : b ≤ b') : pu_X (sw_uI σ w 5 (nI (u.2.2.2.1 ^^^ 2 ^ k))) w (u_o u k) b' ∧ pz_sm [w] σ (sw_uI σ w 5 (nI (u.2.2.2.1 ^^^ 2 ^ k))) := by
  obtain ⟨hw, a1, a2, a3, a4, a5, a6, a7, a8, a9, a10, ⟨a11, a12⟩, n0, b1, b2, b3⟩ := hX
  have r : ∀ j i, 1 ≤ j → (sw_uI σ w 5 (nI (u.2.2.2.1 ^^^ 2 ^ k))).1 (w + j) i = σ.1 (w + j) i := fun j i hj => pz_Io (by omega) i
  have r0 : ∀ i, i ≠ 5 → (sw_uI σ w 5 (nI (u.2.2.2.1 ^^^ 2 ^ k))).1 w i = σ.1 w i := fun i hk => pz_Ik hk w
  have q5 : (sw_uI σ w 5 (nI (u.2.2.2.1 ^^^ 2 ^ k))).1 w 5 = nI (u.2.2.2.1 ^^^ 2 ^ k) := pz_Ie rfl rfl
  refine ⟨⟨hw, a1, by rw [r0 _ (by decide)]; exact a2, by rw [r0 _ (by decide)]; exact a3, by rw [r0 _ (by decide)]; exact a4, by rw [r0 _ (by decide)]; exact a5, q5, by rw [r0 _ (by decide)]; exact a7, fun f hf => by rw [r 2 _ (by decide)]; exact a8 f hf, fun i hk => by rw [r 3 _ (by decide), r 4 _ (by decide), r 5 _ (by decide)]; exact a9 i hk, fun s hs => by rw [r 7 _ (by decide), r 8 _ (by decide)]; exact a10 s hs, ⟨fun f hf => by rw [r 1 _ (by decide)]; exact a11 f hf, fun s hs => by rw [r 6 _ (by decide)]; exact a12 s hs⟩, n0, by rw [r 9 _ (by decide)]; exact b1, by omega, fun j hj => ?_⟩, (pz_sm.refl _ σ).I (by simp) _ _⟩
  obtain ⟨a, c1, c2, c3, c4⟩ := b3 j hj
  exact ⟨a, by rw [r 11 _ (by decide)]; exact c1, by rw [r 12 _ (by decide)]; exact c2, c3, fun i hi => by rw [r 10 _ (by decide)]; exact c4 i hi⟩
theorem px_uw {t : Nat → Nat} {N w b : Nat} {u : g_U} (ht : ∀ i, t i < 256) (hN : N ≤ 1600) (hb : b ≤ N) : px_uc t N w u (fun σ => F_X3_stormStatement σ) b (pu_storm t N u b) := by
  have hes := tk_e_sp t hb
  unfold pu_storm
  refine px_uc.ad (g := fun σ => (F_X6_takeNumber σ 0 100).bind fun q2 => if q2.1 = (-1) then (some (0, q2.2)) else ((q2.2.2.2 32 1).bind fun w3 => (if sw_isO sw_gX w3 9 = true then (some (1, (sw_uI q2.2 w3 4 q2.1))) else none))) ht hN hb (fun σ σ' hs hX e => ?_) ?_
  · unfold F_X3_stormStatement
    rw [e]
    rfl
  · refine px_uc.nu (lo := 0) (lim := 101) (x2 := 100) (g := fun v σ => (σ.2.2 32 1).bind fun w3 => (if sw_isO sw_gX w3 9 = true then (some (1, (sw_uI σ w3 4 (nI v)))) else none)) ht hN hes.2.1 (by decide) (by decide) (fun σ σ' e => ?_) (fun σ σ' v hv e => ?_) (fun r3 hr3 k1 k2 k3 k4 => ?_)
    · rw [show F_X6_takeNumber σ 0 100 = _ from e]
      rfl
    · rw [show F_X6_takeNumber σ 0 100 = _ from e]
      dsimp only [Option.bind_some]
      rw [if_neg (pz_nm1 (by omega))]
    · refine fun σ hs hX => ⟨fun q hq => ?_, fun e he => (by cases he)⟩
      rw [← Except.ok.inj hq]
      obtain ⟨x1, x2⟩ := pu_X_w (x := r3.1) hX (Nat.le_refl r3.2)
      have hw := hX.1
      refine ⟨_, ?_, hs.mvS x2 (by simp <;> omega) (by simp <;> omega), x1, x2.mono (by unfold pu_S; simp), by rw [x2.r (by simp <;> omega)], by rw [x2.r (by simp <;> omega)]⟩
      (try dsimp only)
      rw [hX.2.1]
      dsimp only [Option.bind_some]
      rw [if_pos (ld_O hw)]
theorem px_uo {t : Nat → Nat} {N w b : Nat} {u : g_U} (hu : pu_ok u) (ht : ∀ i, t i < 256) (hN : N ≤ 1600) (hb : b ≤ N) : px_uc t N w u (fun σ => F_X3_shutStatement σ) b (pu_shut t N u b) := by
  have hes := tk_e_sp t hb
  have l10 := hu.1.2.1
  have hop : u.2.2.2.1 < 2 ^ 31 := Nat.lt_of_lt_of_le hu.2.2.2.1 (Nat.pow_le_pow_right (by omega) (by omega))
  unfold pu_shut
  refine px_uc.ad (g := fun σ => (σ.2.2 32 1).bind fun w2 => (if sw_isO sw_gX w2 9 = true then ((F_X6_takeNumber σ 0 ((σ.1 w2 2) - 1)).bind fun q4 => if q4.1 = (-1) then (some (0, q4.2)) else ((q4.2.2.2 32 1).bind fun w5 => (if sw_isO sw_gX w5 9 = true then (if (((q4.2.1 w5 5) >>> (q4.1 &&& 31)) &&& 1) = 0 then ((F_X6_fail q4.2 2 (σ.1 2 3)).bind fun q10 => if q10.1 = 0 ∨ q10.1 = 1 then some (q10.1, q10.2) else none) else ((q4.2.2.2 32 1).bind fun w7 => (if sw_isO sw_gX w7 9 = true then (if sw_isO sw_gX w7 9 = true then (some (1, (sw_uI q4.2 w7 5 ((q4.2.1 w7 5) ^^^ ((1 : Int32) <<< (q4.1 &&& 31)))))) else none) else none))) else none))) else none)) ht hN hb (fun σ σ' hs hX e => ?_) ?_
  · unfold F_X3_shutStatement
    rw [e]
    rfl
  · refine px_uc.sq (bh := fun r => r.2) (g := fun r σ => (σ.2.2 32 1).bind fun w5 => (if sw_isO sw_gX w5 9 = true then (if (((σ.1 w5 5) >>> (nI r.1 &&& 31)) &&& 1) = 0 then ((F_X6_fail σ 2 (nI (tk_s t N (tk_e t N b)))).bind fun q10 => if q10.1 = 0 ∨ q10.1 = 1 then some (q10.1, q10.2) else none) else ((σ.2.2 32 1).bind fun w7 => (if sw_isO sw_gX w7 9 = true then (if sw_isO sw_gX w7 9 = true then (some (1, (sw_uI σ w7 5 ((σ.1 w7 5) ^^^ ((1 : Int32) <<< (nI r.1 &&& 31)))))) else none) else none))) else none)) (fun σ hs hX => ?_) (fun r1 hr1 => ?_)
    · obtain ⟨p1, p2⟩ := px_tnum2 (lo := 0) (lim := u.1 0 1) (x2 := nI (u.1 0 1) - 1) hs ht hN hes.2.1 (by decide) (px_gm1 _ (by omega))
      have eF : ((σ.2.2 32 1).bind fun w2 => (if sw_isO sw_gX w2 9 = true then ((F_X6_takeNumber σ 0 ((σ.1 w2 2) - 1)).bind fun q4 => if q4.1 = (-1) then (some (0, q4.2)) else ((q4.2.2.2 32 1).bind fun w5 => (if sw_isO sw_gX w5 9 = true then (if (((q4.2.1 w5 5) >>> (q4.1 &&& 31)) &&& 1) = 0 then ((F_X6_fail q4.2 2 (σ.1 2 3)).bind fun q10 => if q10.1 = 0 ∨ q10.1 = 1 then some (q10.1, q10.2) else none) else ((q4.2.2.2 32 1).bind fun w7 => (if sw_isO sw_gX w7 9 = true then (if sw_isO sw_gX w7 9 = true then (some ((1 : Int32), (sw_uI q4.2 w7 5 ((q4.2.1 w7 5) ^^^ ((1 : Int32) <<< (q4.1 &&& 31)))))) else none) else none))) else none))) else none)) = (F_X6_takeNumber σ (nI 0) (nI (u.1 0 1) - 1)).bind fun q4 => if q4.1 = (-1) then (some (0, q4.2)) else ((q4.2.2.2 32 1).bind fun w5 => (if sw_isO sw_gX w5 9 = true then (if (((q4.2.1 w5 5) >>> (q4.1 &&& 31)) &&& 1) = 0 then ((F_X6_fail q4.2 2 (nI (tk_s t N (tk_e t N b)))).bind fun q10 => if q10.1 = 0 ∨ q10.1 = 1 then some (q10.1, q10.2) else none) else ((q4.2.2.2 32 1).bind fun w7 => (if sw_isO sw_gX w7 9 = true then (if sw_isO sw_gX w7 9 = true then (some (1, (sw_uI q4.2 w7 5 ((q4.2.1 w7 5) ^^^ ((1 : Int32) <<< (q4.1 &&& 31)))))) else none) else none))) else none)) := by
        rw [hX.2.1]
        dsimp only [Option.bind_some]
        rw [if_pos (ld_O hX.1), hX.2.2.2.1, hs.2.2.1]
        rfl
      (try dsimp only)
      rw [eF]
      refine ⟨fun q hq => ?_, fun e he => ?_⟩
      · obtain ⟨σ', k1, k2, k3, k4⟩ := p1 q hq
        refine ⟨σ', ?_, k2, k3⟩
        rw [k1]
        dsimp only [Option.bind_some]
        rw [if_neg (pz_nm1 (by omega))]
      · obtain ⟨σ', k1, k2⟩ := p2 e he
        refine ⟨σ', ?_, k2⟩
        rw [k1]
        dsimp only [Option.bind_some]
        rw [if_pos rfl]
    · have f1 := tk_num_ok hes.2.1 hr1
      refine ⟨by omega, fun σ hs hX => ?_⟩
      have hw := hX.1
      have eF : ((σ.2.2 32 1).bind fun w5 => (if sw_isO sw_gX w5 9 = true then (if (((σ.1 w5 5) >>> (nI r1.1 &&& 31)) &&& 1) = 0 then ((F_X6_fail σ 2 (nI (tk_s t N (tk_e t N b)))).bind fun q10 => if q10.1 = 0 ∨ q10.1 = 1 then some (q10.1, q10.2) else none) else ((σ.2.2 32 1).bind fun w7 => (if sw_isO sw_gX w7 9 = true then (if sw_isO sw_gX w7 9 = true then (some ((1 : Int32), (sw_uI σ w7 5 ((σ.1 w7 5) ^^^ ((1 : Int32) <<< (nI r1.1 &&& 31)))))) else none) else none))) else none)) = if (nI u.2.2.2.1 >>> (nI r1.1 &&& 31)) &&& 1 = 0 then ((F_X6_fail σ (nI 2) (nI (tk_s t N (tk_e t N b)))).bind fun q10 => if q10.1 = 0 ∨ q10.1 = 1 then some (q10.1, q10.2) else none) else some (1, sw_uI σ w 5 (nI (u.2.2.2.1 ^^^ 2 ^ r1.1))) := by
        rw [hX.2.1]
        dsimp only [Option.bind_some]
        rw [if_pos (ld_O hw), if_pos (ld_O hw), if_pos (ld_O hw), hX.2.2.2.2.2.2.1, pz_shl (by omega), fb_xorI]
        rfl
      (try dsimp only)
      rw [eF]
      by_cases c : u.2.2.2.1.testBit r1.1 = true
      · rw [if_pos c, if_neg (fun y => by rw [px_bitF hop (by omega), c] at y; cases y)]
        refine ⟨fun q hq => ?_, fun e he => (by cases he)⟩
        rw [← Except.ok.inj hq]
        obtain ⟨x1, x2⟩ := pu_X_o (k := r1.1) hX (Nat.le_refl r1.2)
        exact ⟨_, rfl, hs.mvS x2 (by simp <;> omega) (by simp <;> omega), x1, x2.mono (by unfold pu_S; simp), by rw [x2.r (by simp <;> omega)], by rw [x2.r (by simp <;> omega)]⟩
      · rw [if_neg c, if_pos ((px_bitF hop (by omega)).mpr (by simpa using c))]
        refine ⟨fun q hq => (by cases hq), fun e he => ?_⟩
        rw [← Except.error.inj he]
        obtain ⟨σ', p1, p2⟩ := px_fail (σ := σ) (kd := 2) (pl := tk_s t N (tk_e t N b))
        refine ⟨σ', ?_, p2.S w, p2.2.1, p2.2.2.1⟩
        rw [p1]
        dsimp only [Option.bind_some]
        rw [if_pos (Or.inl rfl)]
theorem px_ucd {t : Nat → Nat} {N w b j : Nat} {u : g_U} (hu : pu_ok u) (ht : ∀ i, t i < 256) (hN : N ≤ 1600) (hb : b ≤ N) (hj : j < 3) : px_uc t N w u (fun σ => (F_X3_beginFormula σ (nI j)).bind fun q5 => if q5.1 = 0 then some (0, q5.2) else ((R_pg sw_depth (pu_gj j) q5.2 (nI 0)).bind fun q6 => if q6.1 = 0 then some (0, q6.2) else ((F_X3_endFormula q6.2 (nI j)).bind fun q7 => if q7.1 = 0 then some (0, q7.2) else some (1, q7.2)))) b (pu_codes t N u j b) := by
  have hes := tk_e_sp t hb
  have hss := tk_s_sp t hb
  have htd := hu.2.2.2.2.1
  intro σ hs hX
  have hX0 := hX
  obtain ⟨hw, a1, a2, a3, a4, a5, a6, a7, a8, a9, a10, ⟨a11, a12⟩, n0, b1, b2, b3⟩ := hX
  have hc : px_isC (w + 9) := by
    rcases hw with e | e
    · rw [e]; exact Or.inr (Or.inl rfl)
    · rw [e]; exact Or.inr (Or.inr rfl)
  unfold pu_codes
  (try dsimp only)
  by_cases c : u.2.2.2.2.testBit j = true
  · rw [if_pos c]
    refine ⟨fun q hq => (by cases hq), fun e he => ?_⟩
    rw [← Except.error.inj he]
    obtain ⟨σ', p1, p2⟩ := px_fl5 hs
    refine ⟨σ', ?_, p2.S w, p2.2.1, p2.2.2.1⟩
    unfold F_X3_beginFormula
    rw [a1]
    dsimp only [Option.bind_some]
    rw [if_pos (ld_O hw), a7, if_pos ((px_bitT (by omega) (by omega)).mpr c), p1]
    dsimp only [Option.bind_some]
    rw [if_pos rfl]
  · rw [if_neg c]
    have m1 : pz_sm [w] σ (sw_uI σ w 6 (nI (u.2.2.2.2 ||| 2 ^ j))) := (pz_sm.refl _ σ).I (by simp) _ _
    have hs1 : px_rs (sw_uI σ w 6 (nI (u.2.2.2.2 ||| 2 ^ j))) t N b := hs.mvS m1 (by simp <;> omega) (by simp <;> omega)
    have x6 : (sw_uI σ w 6 (nI (u.2.2.2.2 ||| 2 ^ j))).1 w 6 = nI (u.2.2.2.2 ||| 2 ^ j) := pz_Ie rfl rfl
    have x0 : ∀ k, k ≠ 6 → (sw_uI σ w 6 (nI (u.2.2.2.2 ||| 2 ^ j))).1 w k = σ.1 w k := fun k hk => pz_Ik hk w
    have y1 : (sw_uI σ w 6 (nI (u.2.2.2.2 ||| 2 ^ j))).2.2 32 1 = some w := a1
    obtain ⟨σ2, q1, q2, q3⟩ := px_adv hs1.1 ht hN hes.2.1 hs1.2.2.2
    have eB : F_X3_beginFormula σ (nI j) = some (1, sw_uI (sw_uI (sw_uR σ2 32 2 (some (w + 9))) 32 3 (nI j)) (w + 11) j (nI n0)) := by
      unfold F_X3_beginFormula
      rw [a1]
      dsimp only [Option.bind_some]
      rw [if_pos (ld_O hw), a7, if_neg (fun y => c ((px_bitT (by omega) (by omega)).mp y)), if_pos (ld_O hw), if_pos (ld_O hw), pz_shl (by omega), fa_or, q1]
      dsimp only [Option.bind_some]
      rw [show σ2.2.2 32 1 = some w from by rw [q3.1.rR (by decide)]; exact y1]
      dsimp only [Option.bind_some]
      rw [if_pos (ld_O hw), if_pos (ld_O hw), if_pos (ld_C hw), if_pos (ld_A11 hw), ld_n11 hw, if_pos (pz_inb hj (by omega)), nI_clamp (by omega)]
      have e9 : (sw_uI (sw_uR σ2 32 2 (some (w + 9))) 32 3 (nI j)).1 (w + 9) 1 = nI n0 := by
        rw [pz_Io (by omega)]
        show σ2.1 (w + 9) 1 = nI n0
        rw [q3.1.r (by simp <;> omega), m1.r (by simp)]
        exact b1
      rw [e9]
    have m3 : pz_sm [32, w + 11] σ2 (sw_uI (sw_uI (sw_uR σ2 32 2 (some (w + 9))) 32 3 (nI j)) (w + 11) j (nI n0)) := (((pz_sm.refl _ σ2).R (by simp) _ _).I (by simp) _ _).I (by simp) _ _
    have z3 : (sw_uI (sw_uI (sw_uR σ2 32 2 (some (w + 9))) 32 3 (nI j)) (w + 11) j (nI n0)).1 32 3 = nI j := by rw [pz_Io (by omega), pz_Ie rfl rfl]
    have z2 : (sw_uI (sw_uI (sw_uR σ2 32 2 (some (w + 9))) 32 3 (nI j)) (w + 11) j (nI n0)).2.2 32 2 = some (w + 9) := by
      show (sw_uR σ2 32 2 (some (w + 9))).2.2 32 2 = _
      exact pz_Re
    have z1 : (sw_uI (sw_uI (sw_uR σ2 32 2 (some (w + 9))) 32 3 (nI j)) (w + 11) j (nI n0)).2.2 32 1 = some w := by
      show (sw_uR σ2 32 2 (some (w + 9))).2.2 32 1 = _
      have : (sw_uR σ2 32 2 (some (w + 9))).2.2 32 1 = σ2.2.2 32 1 := by
        unfold sw_uR vf_upd
        simp
      rw [this, q3.1.rR (by decide)]
      exact y1
    have z11 : ∀ i, (sw_uI (sw_uI (sw_uR σ2 32 2 (some (w + 9))) 32 3 (nI j)) (w + 11) j (nI n0)).1 (w + 11) i = if i = j then nI n0 else σ2.1 (w + 11) i := fun i => by
      by_cases d : i = j
      · rw [if_pos d, pz_Ie rfl d]
      · rw [if_neg d, pz_Ik d, pz_Io (by omega)]
        rfl
    generalize hg3 : sw_uI (sw_uI (sw_uR σ2 32 2 (some (w + 9))) 32 3 (nI j)) (w + 11) j (nI n0) = σ3 at eB m3 z1 z2 z3 z11
    have hs3 : px_rs σ3 t N (tk_e t N b) := q2.mvS m3 (by simp <;> omega) (by simp <;> omega)
    have z9 : σ3.1 (w + 9) 1 = nI n0 := by
      rw [m3.r (by simp <;> omega), q3.1.r (by simp <;> omega), m1.r (by simp)]
      exact b1
    have m03 : pz_sm (pu_S w) σ σ3 := ((m1.mono (by unfold pu_S; simp)).trans (q3.S w)).trans (m3.mono (by unfold pu_S; simp))
    have c56 : σ3.1 2 5 = σ.1 2 5 ∧ σ3.1 2 6 = σ.1 2 6 := ⟨by rw [m3.r (by simp <;> omega), q3.2.2.1, m1.r (by simp <;> omega)], by rw [m3.r (by simp <;> omega), q3.2.2.2.1, m1.r (by simp <;> omega)]⟩
    have hgj : pu_gj j = 3 ∨ pu_gj j = 0 := by
      unfold pu_gj
      split
      · exact Or.inr rfl
      · exact Or.inl rfl
    have hP := px_parse (co := w + 9) (use := j) hc ht hN (by omega) sw_depth (pu_gj j) 0 (tk_e t N b) (by unfold pp_nd sw_depth; omega) (by omega) (by omega) hes.2.1 σ3 n0 hs3 z3 z2 z9 (by omega)
    (try dsimp only at hP)
    rw [eB]
    dsimp only [Option.bind_some]
    rw [if_neg pz_10]
    cases hr : pp t N j sw_depth (pu_gj j) 0 (tk_e t N b) with
    | error e0 =>
      refine ⟨fun q hq => (by cases hq), fun e he => ?_⟩
      have he : (Except.error e0 : uR) = .error e := he
      rw [← Except.error.inj he]
      obtain ⟨σ4, r1, r2, r3, r4⟩ := hP.2 e0 hr
      refine ⟨σ4, ?_, m03.trans (r2.1.mono (by unfold pu_S; simp)), r3, r4⟩
      rw [r1]
      rfl
    | ok q0 =>
      refine ⟨fun q hq => ?_, fun e he => (by cases he)⟩
      have hq : (Except.ok (u_c u j q0.1, q0.2) : uR) = .ok q := hq
      rw [← Except.ok.inj hq]
      obtain ⟨σ4, r1, r2, r3, r4, r5, r6, r7, r8⟩ := hP.1 q0 hr
      obtain ⟨s1, s2, s3⟩ := r5
      rw [r1]
      dsimp only [Option.bind_some]
      rw [if_neg pz_10]
      have v1 : σ4.2.2 32 1 = some w := by rw [(r3.r32 hc 1).2]; exact z1
      have v2 : σ4.2.2 32 2 = some (w + 9) := by rw [(r3.r32 hc 2).2]; exact z2
      have eE : F_X3_endFormula σ4 (nI j) = some (1, sw_uI σ4 (w + 12) j (nI (n0 + q0.1.length))) := by
        unfold F_X3_endFormula
        rw [v1]
        dsimp only [Option.bind_some]
        rw [if_pos (ld_O hw), v2]
        dsimp only [Option.bind_some]
        rw [if_pos (ld_C hw), if_pos (ld_A12 hw), ld_n12 hw, if_pos (pz_inb hj (by omega)), nI_clamp (by omega), s1]
      have m5 : pz_sm [w + 12] σ4 (sw_uI σ4 (w + 12) j (nI (n0 + q0.1.length))) := (pz_sm.refl _ σ4).I (by simp) _ _
      have w12 : ∀ i, (sw_uI σ4 (w + 12) j (nI (n0 + q0.1.length))).1 (w + 12) i = if i = j then nI (n0 + q0.1.length) else σ4.1 (w + 12) i := fun i => by
        by_cases d : i = j
        · rw [if_pos d, pz_Ie rfl d]
        · rw [if_neg d, pz_Ik d]
      rw [eE]
      dsimp only [Option.bind_some]
      rw [if_neg pz_10]
      generalize hg5 : sw_uI σ4 (w + 12) j (nI (n0 + q0.1.length)) = σ5 at m5 w12
      have rr : ∀ i k, 1 ≤ i → i ≤ 8 → σ5.1 (w + i) k = σ.1 (w + i) k := fun i k h1 h2 => by
        rw [m5.r (by simp <;> omega), r3.1.r (by simp <;> omega), m3.r (by simp <;> omega), q3.1.r (by simp <;> omega), m1.r (by simp <;> omega)]
      have rw0 : ∀ k, k ≠ 6 → σ5.1 w k = σ.1 w k := fun k hk => by
        rw [m5.r (by simp), r3.1.r (by simp <;> omega), m3.r (by simp <;> omega), q3.1.r (by simp <;> omega), x0 k hk]
      have rw6 : σ5.1 w 6 = nI (u.2.2.2.2 ||| 2 ^ j) := by
        rw [m5.r (by simp), r3.1.r (by simp <;> omega), m3.r (by simp <;> omega), q3.1.r (by simp <;> omega), x6]
      have r10 : ∀ i, i < n0 → σ5.1 (w + 10) i = σ.1 (w + 10) i := fun i hi => by
        rw [m5.r (by simp)]
        show σ4.1 (w + 9 + 1) i = _
        rw [s3 i hi]
        show σ3.1 (w + 10) i = _
        rw [m3.r (by simp <;> omega), q3.1.r (by simp <;> omega), m1.r (by simp)]
      have r11 : ∀ i, σ5.1 (w + 11) i = if i = j then nI n0 else σ.1 (w + 11) i := fun i => by
        rw [m5.r (by simp), r3.1.r (by simp <;> omega), z11]
        by_cases d : i = j
        · rw [if_pos d, if_pos d]
        · rw [if_neg d, if_neg d, q3.1.r (by simp <;> omega), m1.r (by simp)]
      have r12 : ∀ i, σ5.1 (w + 12) i = if i = j then nI (n0 + q0.1.length) else σ.1 (w + 12) i := fun i => by
        rw [w12]
        by_cases d : i = j
        · rw [if_pos d, if_pos d]
        · rw [if_neg d, if_neg d, r3.1.r (by simp <;> omega), m3.r (by simp <;> omega), q3.1.r (by simp <;> omega), m1.r (by simp)]
      refine ⟨σ5, rfl, r2.mvS m5 (by simp <;> omega) (by simp <;> omega), ⟨hw, by rw [m5.rR (by simp <;> omega)]; exact v1, by rw [rw0 _ (by decide)]; exact a2, by rw [rw0 _ (by decide)]; exact a3, by rw [rw0 _ (by decide)]; exact a4, by rw [rw0 _ (by decide)]; exact a5, by rw [rw0 _ (by decide)]; exact a6, rw6, fun f hf => by rw [rr 2 _ (by decide) (by decide)]; exact a8 f hf, fun k hk => by rw [rr 3 _ (by decide) (by decide), rr 4 _ (by decide) (by decide), rr 5 _ (by decide) (by decide)]; exact a9 k hk, fun s hs => by rw [rr 7 _ (by decide) (by decide), rr 8 _ (by decide) (by decide)]; exact a10 s hs, ⟨fun f hf => by rw [rr 1 _ (by decide) (by decide)]; exact a11 f hf, fun s hs => by rw [rr 6 _ (by decide) (by decide)]; exact a12 s hs⟩, n0 + q0.1.length, by rw [m5.r (by simp)]; exact s1, by (try dsimp only); omega, fun i hi => ?_⟩, (m03.trans (r3.1.mono (by unfold pu_S; simp))).trans (m5.mono (by unfold pu_S; simp)), by rw [m5.r (by simp <;> omega), r4.1]; exact c56.1, by rw [m5.r (by simp <;> omega), r4.2]; exact c56.2⟩
      by_cases d : i = j
      · have eP : (u_c u j q0.1).2.1 i = q0.1 := by
          show (if i = j then q0.1 else u.2.1 i) = q0.1
          rw [if_pos d]
        refine ⟨n0, by rw [r11, if_pos d], by rw [r12, if_pos d, eP], by rw [eP]; omega, fun k hk => ?_⟩
        rw [eP] at hk ⊢
        rw [m5.r (by simp)]
        exact s2 k hk
      · have eP : (u_c u j q0.1).2.1 i = u.2.1 i := by
          show (if i = j then q0.1 else u.2.1 i) = u.2.1 i
          rw [if_neg d]
        obtain ⟨a, c1, c2, c3, c4⟩ := b3 i hi
        refine ⟨a, by rw [r11, if_neg d]; exact c1, by rw [r12, if_neg d, eP]; exact c2, by rw [eP]; omega, fun k hk => ?_⟩
        rw [eP] at hk ⊢
        rw [r10 _ (by omega)]
        exact c4 k hk

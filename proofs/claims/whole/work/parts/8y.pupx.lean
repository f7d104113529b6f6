/-! upland: the class, and the call. -/
theorem u_r_0 (h : Nat) : u_r h 0 = h ∧ u_r h 1 = 0 ∧ u_r h 2 = 0 ∧ u_r h 3 = 0 := by
  unfold u_r
  refine ⟨rfl, ?_, ?_, ?_⟩ <;> (rw [if_neg (by omega), if_neg (by omega)])
theorem u_r_4 (h f : Nat) : u_r h (4 + f) = if f = h then 1 else 0 := by
  unfold u_r
  rw [if_neg (by omega)]
  by_cases c : f = h
  · rw [if_pos (by omega), if_pos c]
  · rw [if_neg (by omega), if_neg c]
theorem px_bgl38 {w : Nat} {l : Nat → Nat → Nat} {P : Nat → List Nat} (hg : g_ld l P) : ∀ (n fuel s : Nat) (σ : sw_St), px_ld σ w l P → (∀ u, u < s → px_sh σ 38 (l 3 (2 * u + 1)) (u_r (l 3 (2 * u))) u) → (∀ x, 8 * s ≤ x → x < 48 → σ.1 (38 + 6) x = 0) → s + n = l 0 2 → n < fuel →
    ∃ σ', L_X8_begin_38 fuel σ 38 w (nI s) = some ((), σ') ∧ pz_sm [39, 40, 41, 42, 43, 44] σ σ' ∧ (∀ u, u < l 0 2 → px_sh σ' 38 (l 3 (2 * u + 1)) (u_r (l 3 (2 * u))) u)
  | 0, fuel + 1, s, σ, hl, h1, h2, hs, hf => by
    have h6 := hg.2.2.1
    refine ⟨σ, ?_, pz_sm.refl _ _, fun u hu => h1 u (by omega)⟩
    show S_X8_begin_38 _ σ 38 w (nI s) = _
    unfold S_X8_begin_38
    rw [if_pos (ld_O hl.1), hl.2.2.2.2.1, if_pos (nI_le (by omega) (by omega))]
  | n + 1, fuel + 1, s, σ, hl, h1, h2, hs, hf => by
    have h6 := hg.2.2.1
    have h8 := hg.1
    have hw := hl.1
    have hq : (38 : Nat) = 38 ∨ 38 = 46 := Or.inl rfl
    have hs2 : s < l 0 2 := by omega
    obtain ⟨b1, b2⟩ := hg.2.2.2.2.2.2.1 s hs2
    obtain ⟨c1, c2⟩ := hl.2.2.2.2.2.2.2.2.1 s hs2
    have mm : pz_sm [39, 40, 41, 42, 43, 44] σ (sw_uI (sw_uI (sw_uI (sw_uI (sw_uI (sw_uI σ (38 + 1) s (nI (l 3 (2 * s)))) (38 + 2) s 0) (38 + 3) s 0) (38 + 4) s 0) (38 + 5) s (nI (l 3 (2 * s + 1)))) (38 + 6) (8 * s + l 3 (2 * s)) 1) := ((((((pz_sm.refl _ σ).I (by decide) _ _).I (by decide) _ _).I (by decide) _ _).I (by decide) _ _).I (by decide) _ _).I (by decide) _ _
    obtain ⟨σ', p1, p2, p3⟩ := px_bgl38 hg n fuel (s + 1) _ (hl.mv mm (by decide)) (fun u hu => by
      by_cases e : u = s
      · rw [e]
        obtain ⟨u0, u1, u2, u3⟩ := u_r_0 (l 3 (2 * s))
        refine ⟨?_, ?_, ?_, ?_, ?_, fun f hf => ?_⟩
        · rw [u0]
          repeat rw [pz_Io (by decide)]
          exact pz_Ie rfl rfl
        · rw [u1]
          repeat rw [pz_Io (by decide)]
          exact pz_Ie rfl rfl
        · rw [u2]
          repeat rw [pz_Io (by decide)]
          exact pz_Ie rfl rfl
        · rw [u3]
          repeat rw [pz_Io (by decide)]
          exact pz_Ie rfl rfl
        · repeat rw [pz_Io (by decide)]
          exact pz_Ie rfl rfl
        · rw [u_r_4]
          by_cases d : f = l 3 (2 * s)
          · rw [if_pos d, pz_Ie rfl (by omega)]
            rfl
          · rw [if_neg d, pz_Ik (by omega), pz_Io (by decide), pz_Io (by decide), pz_Io (by decide), pz_Io (by decide), pz_Io (by decide), h2 _ (by omega) (by omega)]
            rfl
      · obtain ⟨y1, y2, y3, y4, y5, y6⟩ := h1 u (by omega)
        refine ⟨?_, ?_, ?_, ?_, ?_, fun f hf => ?_⟩
        · rw [pz_Io (by decide), pz_Io (by decide), pz_Io (by decide), pz_Io (by decide), pz_Io (by decide), pz_Ik e]
          exact y1
        · rw [pz_Io (by decide), pz_Io (by decide), pz_Io (by decide), pz_Io (by decide), pz_Ik e, pz_Io (by decide)]
          exact y2
        · rw [pz_Io (by decide), pz_Io (by decide), pz_Io (by decide), pz_Ik e, pz_Io (by decide), pz_Io (by decide)]
          exact y3
        · rw [pz_Io (by decide), pz_Io (by decide), pz_Ik e, pz_Io (by decide), pz_Io (by decide), pz_Io (by decide)]
          exact y4
        · rw [pz_Io (by decide), pz_Ik e, pz_Io (by decide), pz_Io (by decide), pz_Io (by decide), pz_Io (by decide)]
          exact y5
        · rw [pz_Ik (by omega), pz_Io (by decide), pz_Io (by decide), pz_Io (by decide), pz_Io (by decide), pz_Io (by decide)]
          exact y6 f hf) (fun x y1 y2 => by
      rw [pz_Ik (by omega), pz_Io (by decide), pz_Io (by decide), pz_Io (by decide), pz_Io (by decide), pz_Io (by decide)]
      exact h2 x (by omega) y2) (by omega) (by omega)
    refine ⟨σ', ?_, mm.trans p2, p3⟩
    have hi : sw_inb (nI s) 6 = true := pz_inb (by omega) (by omega)
    have nw : ∀ i j, i ≤ 12 → w + i ≠ 38 + j := fun i j hi => by omega
    show S_X8_begin_38 _ σ 38 w (nI s) = _
    unfold S_X8_begin_38
    rw [if_pos (ld_O hw), hl.2.2.2.2.1, if_neg (nI_ge hs2 (by omega))]
    simp only [ld_O hw, st_O hq, ld_A7 hw, ld_n7 hw, ld_A8 hw, ld_n8 hw, st_A1 hq, st_A2 hq, st_A3 hq, st_A4 hq, st_A5 hq, st_A6 hq, st_n1 hq, st_n2 hq, st_n3 hq, st_n4 hq, st_n5 hq, st_n6 hq, hi, if_true, nI_clamp (show s < 2 ^ 31 by omega), c1, pz_Io (nw 8 4 (by omega)), pz_Io (nw 8 3 (by omega)), pz_Io (nw 8 2 (by omega)), pz_Io (nw 8 1 (by omega)), c2]
    rw [pz_Io (show (38 + 1 : Nat) ≠ 38 + 5 by decide), pz_Io (show (38 + 1 : Nat) ≠ 38 + 4 by decide), pz_Io (show (38 + 1 : Nat) ≠ 38 + 3 by decide), pz_Io (show (38 + 1 : Nat) ≠ 38 + 2 by decide), pz_Ie rfl rfl, px_ix8, if_pos (pz_inb (show 8 * s + l 3 (2 * s) < 48 by omega) (by omega)), nI_clamp (show 8 * s + l 3 (2 * s) < 2 ^ 31 by omega), nI_1]
    exact p1
theorem px_bg38 {σ : sw_St} {w op : Nat} {l : Nat → Nat → Nat} {P : Nat → List Nat} (hg : g_ld l P) (hl : px_ld σ w l P) (h5 : σ.1 w 5 = nI op) : ∃ σ', F_X8_begin σ 38 w = some ((), σ') ∧ pz_sm [38, 39, 40, 41, 42, 43, 44] σ σ' ∧ σ'.1 38 0 = nI 0 ∧ σ'.1 38 1 = nI 0 ∧ σ'.1 38 2 = nI op ∧ σ'.1 38 10 = nI 0 ∧ σ'.1 38 11 = nI 0 ∧ (∀ u, u < l 0 2 → px_sh σ' 38 (l 3 (2 * u + 1)) (u_r (l 3 (2 * u))) u) := by
  have hq : (38 : Nat) = 38 ∨ 38 = 46 := Or.inl rfl
  have hfu := sw_fuel_ge
  have h6 := hg.2.2.1
  have hw := hl.1
  have m0 : pz_sm [38, 39, 40, 41, 42, 43, 44] σ (sw_uI (sw_uI (sw_uI (sw_uI (sw_uI σ 38 0 0) 38 1 0) 38 2 ((sw_uI (sw_uI σ 38 0 0) 38 1 0).1 w 5)) 38 10 0) 38 11 0) := (((((pz_sm.refl _ σ).I (by decide) _ _).I (by decide) _ _).I (by decide) _ _).I (by decide) _ _).I (by decide) _ _
  obtain ⟨σ1, p1, p2, p3⟩ := px_fillIL (q := 38 + 6) (st_A6 hq) (st_n6 hq) (by omega) 48 sw_fuel 0 (sw_uI (sw_uI (sw_uI (sw_uI (sw_uI σ 38 0 0) 38 1 0) 38 2 ((sw_uI (sw_uI σ 38 0 0) 38 1 0).1 w 5)) 38 10 0) 38 11 0) (fun i hi => by omega) (by omega) (by omega)
  obtain ⟨σ2, q1, q2, q3⟩ := px_bgl38 hg (l 0 2) sw_fuel 0 σ1 (hl.mv (m0.trans (p3.mono (by decide))) (by decide)) (fun u hu => by omega) (fun x _ h2 => p2 x h2) (by omega) (by omega)
  refine ⟨σ2, ?_, (m0.trans (p3.mono (by decide))).trans (q2.mono (by decide)), ?_, ?_, ?_, ?_, ?_, q3⟩
  · have eF : F_J7_fill_53178 (sw_uI (sw_uI (sw_uI (sw_uI (sw_uI σ 38 0 0) 38 1 0) 38 2 ((sw_uI (sw_uI σ 38 0 0) 38 1 0).1 w 5)) 38 10 0) 38 11 0) (38 + 6) 0 = some ((), σ1) := by
      unfold F_J7_fill_53178
      rw [st_A6 hq, Bool.true_or, Bool.true_or, Bool.true_or, if_pos rfl, st_n6 hq]
      exact p1
    unfold F_X8_begin
    rw [if_pos (st_O hq), if_pos (st_O hq), if_pos (ld_O hl.1), if_pos (st_O hq), if_pos (st_O hq), if_pos (st_O hq), if_pos (st_O hq), eF]
    exact q1
  · rw [q2.r (by decide), p3.r (by decide)]
    repeat rw [pz_Ik (by decide)]
    exact pz_Ie rfl rfl
  · rw [q2.r (by decide), p3.r (by decide)]
    repeat rw [pz_Ik (by decide)]
    exact pz_Ie rfl rfl
  · rw [q2.r (by decide), p3.r (by decide), pz_Ik (by decide), pz_Ik (by decide), pz_Ie rfl rfl, pz_Io (by omega), pz_Io (by omega)]
    exact h5
  · rw [q2.r (by decide), p3.r (by decide)]
    repeat rw [pz_Ik (by decide)]
    exact pz_Ie rfl rfl
  · rw [q2.r (by decide), p3.r (by decide)]
    exact pz_Ie rfl rfl
theorem pu_X.ld {σ σ' : sw_St} {w N : Nat} {u : g_U} (h : pu_X σ w u N) (hN : N ≤ 1600) (m : ∀ j, j ≤ 12 → σ'.1 (w + j) = σ.1 (w + j)) (h33 : σ'.2.2 33 0 = some w) : px_ld σ' w u.1 u.2.1 ∧ XN σ' w u.1 u.2.2.1 := by
  obtain ⟨hw, a1, a2, a3, a4, a5, a6, a7, a8, a9, a10, ⟨a11, a12⟩, n0, b1, b2, b3⟩ := h
  have m0 : σ'.1 w = σ.1 w := m 0 (by omega)
  refine ⟨⟨hw, h33, by rw [m0]; exact a2, by rw [m0]; exact a3, by rw [m0]; exact a4, by rw [m0]; exact a5, by rw [m 2 (by omega)]; exact a8, by rw [m 3 (by omega), m 4 (by omega), m 5 (by omega)]; exact a9, by rw [m 7 (by omega), m 8 (by omega)]; exact a10, fun j hj => ?_⟩, by rw [m 1 (by omega)]; exact a11, by rw [m 6 (by omega)]; exact a12⟩
  obtain ⟨a, c1, c2, c3, c4⟩ := b3 j hj
  exact ⟨a, by rw [m 11 (by omega)]; exact c1, by rw [m 12 (by omega)]; exact c2, by omega, fun i hi => by rw [m 10 (by omega)]; exact c4 i hi⟩
theorem RX.spare {σ σ' : sw_St} {w : Nat} {l : Nat → Nat → Nat} {P : Nat → List Nat} {nm : g_N} {D : g_D} {U : List g_D} {F : List (Nat × Nat × Nat)} {T : List Nat} {sd : Nat} {rf : Nat → Int32} {ft : Int32 × Int32} {im : List Nat} {ft' : Int32 × Int32} (h : RX σ w l P nm D U F T sd rf ft im) (m : pz_sm (pu_S (25 - w)) σ σ') (h5 : σ'.1 2 5 = ft'.1) (h6 : σ'.1 2 6 = ft'.2) : RX σ' w l P nm D U F T sd rf ft' im := by
  have hw := h.1.1
  have n : ∀ o, o ≠ 2 → o ≠ 32 → (o < 25 - w ∨ 37 - w < o) → o ∉ pu_S (25 - w) := fun o h1 h2 h3 => by
    unfold pu_S
    simp
    omega
  have r : ∀ j, j ≤ 12 → σ'.1 (w + j) = σ.1 (w + j) := fun j hj => (m _ (n _ (by omega) (by omega) (by omega))).1
  have q : ∀ o, 33 ≤ o → σ'.1 o = σ.1 o ∧ σ'.2.2 o = σ.2.2 o := fun o ho => ⟨(m o (n o (by omega) (by omega) (by omega))).1, (m o (n o (by omega) (by omega) (by omega))).2.2⟩
  have q0 : ∀ o, o ≤ 1 → σ'.1 o = σ.1 o ∧ σ'.2.2 o = σ.2.2 o := fun o ho => ⟨(m o (n o (by omega) (by omega) (by omega))).1, (m o (n o (by omega) (by omega) (by omega))).2.2⟩
  obtain ⟨b1, b2, b3, b4, b5, b6, b7, b8, b9, b10, b11, b12, b13⟩ := h
  refine ⟨b1.mvr r (q 33 (by omega)).2, by rw [(q0 0 (by omega)).2]; exact b2, b3.mvr r, b4.mv (fun j hj => (q _ (by omega)).1), ?_, b6.mv (by rw [(q 54 (by omega)).1]) (q 55 (by omega)).1, b7.mv (by rw [(q0 0 (by omega)).1]) (q0 1 (by omega)).1, by rw [(q0 0 (by omega)).1]; exact b8, fun j hj => by rw [(q 226 (by omega)).1]; exact b9 j hj, ⟨h5, h6⟩, b11.mv (by rw [(q 224 (by omega)).1]) (q 225 (by omega)).1, by rw [(q 34 (by omega)).1]; exact b12, b13.mv (q 54 (by omega)).2⟩
  obtain ⟨nx, c1, c2, c3, c4, c5⟩ := b5
  exact ⟨nx, c1, by rw [(q 62 (by omega)).1]; exact c2, by rw [(q 62 (by omega)).1]; exact c3, fun j hj => by rw [(q 63 (by omega)).2]; exact c4 j hj, fun i E hi => (c5 i E hi).mv (fun j hj => (q _ (by omega)).1)⟩
theorem pz_Ro {σ : sw_St} {o k : Nat} {v : Option Nat} {o' k' : Nat} (h : o' ≠ o ∨ k' ≠ k) : (sw_uR σ o k v).2.2 o' k' = σ.2.2 o' k' := by
  unfold sw_uR vf_upd
  (try dsimp only)
  by_cases c : o' = o
  · have c2 : k' ≠ k := by
      rcases h with h | h
      · exact absurd c h
      · exact h
    simp [c, c2]
  · simp [c]
theorem px_upl {σ : sw_St} {w : Nat} {l : Nat → Nat → Nat} {P : Nat → List Nat} {nm : g_N} {D : g_D} {U : List g_D} {F : List (Nat × Nat × Nat)} {T : List Nat} {sd : Nat} {rf : Nat → Int32} {ft : Int32 × Int32} {im : List Nat} (hG : RG l P nm D U F T sd im) (h : RX σ w l P nm D U F T sd rf ft im) :
    (∀ q, pu_all (fun i => T.getD i 0) T.length 61 u_0 0 0 = .ok q → ∃ σ', F_X10_upland σ = some (nI q.2, σ') ∧ RX σ' (25 - w) q.1.1 q.1.2.1 q.1.2.2.1 (u_D q.1) [] [] [] sd rf (nI 0, -1) im) ∧
    (∀ e, pu_all (fun i => T.getD i 0) T.length 61 u_0 0 0 = .error e → ∃ σ', F_X10_upland σ = some (-1, σ') ∧ RX σ' w l P nm D U F [] sd (g_rf rf 1) (nI e.1, nI e.2) im) := by
  have hX0 := h.tape0
  have hT := hG.2.2.2.2.2.1
  have hw := h.1.1
  have hw2 : 25 - w = 6 ∨ 25 - w = 19 := by omega
  obtain ⟨k1, k2⟩ := px_rdU (σ := sw_uI σ 0 1 0) (t := fun i => T.getD i 0) (N := T.length) hw2 (g_tlt hT.2) hT.1 (fun i hi => by rw [pz_Io (by decide)]; exact h.2.2.2.2.2.2.1.2 i hi)
  unfold F_X10_upland F_X10_takeTape
  dsimp only [Option.bind_some]
  rw [show (sw_uI σ 0 1 0).2.2 0 4 = some (25 - w) from hX0.2.1]
  dsimp only [Option.bind_some]
  rw [h.2.2.2.2.2.2.1.1]
  have n : ∀ o, o ≠ 2 → o ≠ 32 → (o < 25 - w ∨ 37 - w < o) → o ∉ pu_S (25 - w) := fun o h1 h2 h3 => by
    unfold pu_S
    simp
    omega
  refine ⟨fun q hq => ?_, fun e he => ?_⟩
  · obtain ⟨σ1, p1, p2, p3, p4, p5, p6⟩ := k1 q hq
    rw [p1]
    dsimp only [Option.bind_some]
    have e33 : σ1.2.2 33 0 = some w := by rw [p5.rR (n 33 (by omega) (by omega) (by omega))]; exact hX0.1.2.1
    have e04 : σ1.2.2 0 4 = some (25 - w) := by rw [p5.rR (n 0 (by omega) (by omega) (by omega))]; exact hX0.2.1
    rw [if_neg pz_10, e33]
    dsimp only [Option.bind_some]
    rw [e04]
    dsimp only [Option.bind_some]
    have s33 : (sw_uR (sw_uR σ1 33 0 (some (25 - w))) 0 4 (some w)).2.2 33 0 = some (25 - w) := by rw [pz_Ro (by decide), pz_Re]
    have s04 : (sw_uR (sw_uR σ1 33 0 (some (25 - w))) 0 4 (some w)).2.2 0 4 = some w := pz_Re
    have sI : (sw_uR (sw_uR σ1 33 0 (some (25 - w))) 0 4 (some w)).1 = σ1.1 := rfl
    have sR : ∀ o, o ≠ 0 → o ≠ 33 → (sw_uR (sw_uR σ1 33 0 (some (25 - w))) 0 4 (some w)).2.2 o = σ1.2.2 o := fun o h0 h1 => by
      funext k
      rw [pz_Ro (Or.inl h0), pz_Ro (Or.inl h1)]
    generalize hg2 : sw_uR (sw_uR σ1 33 0 (some (25 - w))) 0 4 (some w) = σ2 at s33 s04 sI sR
    obtain ⟨hl2, hn2⟩ := p2.ld hT.1 (σ' := σ2) (fun j hj => by rw [sI]) s33
    obtain ⟨σ3, q1, q2, q3, q4, q5, q6, q7, q8⟩ := px_bg38 p3.1 hl2 (show σ2.1 (25 - w) 5 = nI q.1.2.2.2.1 from by rw [sI]; exact p2.2.2.2.2.2.2.1)
    rw [q1]
    dsimp only [Option.bind_some]
    unfold F_X4_clear
    dsimp only [Option.bind_some]
    have m5 : pz_sm [54, 62] σ3 (sw_uI (sw_uI σ3 62 2 0) 54 4 0) := ((pz_sm.refl _ σ3).I (by decide) _ _).I (by decide) _ _
    have m25 : pz_sm [38, 39, 40, 41, 42, 43, 44, 54, 62] σ2 (sw_uI (sw_uI σ3 62 2 0) 54 4 0) := (q2.mono (by decide)).trans (m5.mono (by decide))
    have t33 : (sw_uI σ3 62 2 0).2.2 33 0 = some (25 - w) := by
      show σ3.2.2 33 0 = _
      rw [q2.rR (by decide)]
      exact s33
    have t54 : (sw_uI (sw_uI σ3 62 2 0) 54 4 0).1 54 4 = nI 0 := pz_Ie rfl rfl
    have t62 : (sw_uI (sw_uI σ3 62 2 0) 54 4 0).1 62 2 = nI 0 := by rw [pz_Io (by decide)]; exact pz_Ie rfl rfl
    have t62b : (sw_uI (sw_uI σ3 62 2 0) 54 4 0).1 62 1 = σ3.1 62 1 := by rw [pz_Io (by decide), pz_Ik (by decide)]
    have tc : ∀ j, j ≤ 12 → (sw_uI (sw_uI σ3 62 2 0) 54 4 0).1 (25 - w + j) = σ2.1 (25 - w + j) := fun j hj => (m25 _ (by simp; omega)).1
    rw [t33]
    dsimp only [Option.bind_some]
    rw [if_pos (ld_O hw2)]
    generalize hg5 : sw_uI (sw_uI σ3 62 2 0) 54 4 0 = σ5 at m5 m25 t54 t62 t62b tc
    refine ⟨σ5, ?_, ?_⟩
    · have e0 : σ5.1 (25 - w) 0 = nI q.2 := by
        have := tc 0 (by omega)
        rw [Nat.add_zero] at this
        rw [this, sI]
        exact p4
      rw [e0]
    · -- other cells, from the store at the beginning
      have r : ∀ o, (o ≤ 1 ∨ (33 ≤ o ∧ (o < 38 ∨ 44 < o) ∧ o ≠ 54 ∧ o ≠ 62)) → ∀ k, σ5.1 o k = (sw_uI σ 0 1 0).1 o k := fun o ho k => by
        rw [m25.r (by simp; omega), sI, p5.r (n o (by omega) (by omega) (by omega))]
      have rR : ∀ o, 34 ≤ o → (o < 38 ∨ 44 < o) → ∀ k, σ5.2.2 o k = (sw_uI σ 0 1 0).2.2 o k := fun o h1 h2 k => by
        by_cases d : o = 54 ∨ o = 62
        · rw [show σ5.2.2 o = σ3.2.2 o from by rw [← hg5]; rfl, q2.rR (by simp; omega), sR o (by omega) (by omega), p5.rR (n o (by omega) (by omega) (by omega))]
        · rw [m25.rR (by simp; omega), sR o (by omega) (by omega), p5.rR (n o (by omega) (by omega) (by omega))]
      obtain ⟨b1, b2, b3, b4, b5, b6, b7, b8, b9, b10, b11, b12, b13⟩ := hX0
      have h5R : σ5.2.2 = σ3.2.2 := by rw [← hg5]; rfl
      obtain ⟨hl5, hn5⟩ := p2.ld hT.1 (σ' := σ5) (fun j hj => by rw [tc j hj, sI]) (by rw [h5R, q2.rR (by decide)]; exact s33)
      obtain ⟨nx, c1, c2, c3, c4, c5⟩ := b5
      refine ⟨hl5, ?_, hn5, ⟨?_, ?_, ?_, fun s hs => ?_, 0, by omega, ?_, ?_, fun i hi => (by cases hi)⟩, ⟨nx, c1, ?_, t62, fun j hj => ?_, fun i E hi => (by cases hi)⟩, ⟨t54, fun i hi => (by cases hi)⟩, ⟨?_, fun i hi => (by cases hi)⟩, ?_, fun j hj => ?_, ⟨?_, ?_⟩, ⟨?_, fun i hi => ?_⟩, ?_, ?_⟩
      · rw [h5R, q2.rR (by decide), s04]
        congr 1
        omega
      · rw [m5.r (by decide)]
        exact q3
      · rw [m5.r (by decide)]
        exact q4
      · rw [m5.r (by decide)]
        exact q5
      · obtain ⟨y1, y2, y3, y4, y5, y6⟩ := q8 s hs
        exact ⟨by rw [m5.r (by decide)]; exact y1, by rw [m5.r (by decide)]; exact y2, by rw [m5.r (by decide)]; exact y3, by rw [m5.r (by decide)]; exact y4, by rw [m5.r (by decide)]; exact y5, fun f hf => by rw [m5.r (by decide)]; exact y6 f hf⟩
      · rw [m5.r (by decide)]
        exact q6
      · rw [m5.r (by decide)]
        exact q7
      · rw [t62b, q2.r (by decide), sI, p5.r (n 62 (by omega) (by omega) (by omega))]
        exact c2
      · rw [rR 63 (by omega) (by omega)]
        exact c4 j hj
      · rw [r 0 (by omega)]
        exact b7.1
      · rw [r 0 (by omega)]
        exact b8
      · rw [r 226 (by omega)]
        exact b9 j hj
      · rw [m25.r (by decide), sI]
        exact p6.1
      · rw [m25.r (by decide), sI]
        exact p6.2
      · rw [r 224 (by omega)]
        exact b11.1
      · rw [r 225 (by omega)]
        exact b11.2 i hi
      · rw [r 34 (by omega)]
        exact b12
      · unfold XP
        rw [rR 54 (by omega) (by omega), rR 54 (by omega) (by omega)]
        exact b13
  · obtain ⟨σ1, p1, p2, p3, p4⟩ := k2 e he
    have hR := hX0.spare (ft' := (nI e.1, nI e.2)) p2 p3 p4
    refine ⟨_, ?_, hR.ref (j := 1) (by omega)⟩
    rw [p1]
    dsimp only [Option.bind_some]
    rw [if_pos rfl, show (1 : Int32) = nI 1 from rfl, px_refuse (by omega)]
    rfl
theorem u_D_dk {u : g_U} (hu : pu_ok u) : g_dk u.1 (u_D u) := by
  refine ⟨Nat.zero_le _, Nat.zero_le _, hu.2.2.2.1, fun s hs => ?_, Nat.zero_le _, fun x hx => (by cases hx), fun s j hs h1 h2 => ?_⟩
  · have h1 := hu.1.2.2.2.2.2.2.1 s hs
    have h8 := hu.1.1
    obtain ⟨u0, u1, u2, u3⟩ := u_r_0 (u.1 3 (2 * s))
    refine ⟨⟨h1.2, ?_, ?_, ?_, ?_, fun f hf => ?_⟩, ?_⟩
    · show u_r (u.1 3 (2 * s)) 0 < 8
      rw [u0]
      omega
    · show u_r (u.1 3 (2 * s)) 1 ≤ 999
      rw [u1]
      omega
    · show u_r (u.1 3 (2 * s)) 2 < 64
      rw [u2]
      omega
    · show u_r (u.1 3 (2 * s)) 3 ≤ 1
      rw [u3]
      omega
    · show u_r (u.1 3 (2 * s)) (4 + f) ≤ 99
      rw [u_r_4]
      split <;> omega
    · show u_r (u.1 3 (2 * s)) 0 < u.1 0 0
      rw [u0]
      exact h1.1
  · have h1' := (hu.1.2.2.2.2.2.2.1 s hs).1
    show u_r (u.1 3 (2 * s)) (4 + j) = 0
    rw [u_r_4, if_neg (by omega)]
theorem op_2 : ll_2 RR := by
  intro x m hR
  obtain ⟨w, l, P, nm, D, U, F, T, sd, rf, ft, im, hG, hX, hM⟩ := hR
  obtain ⟨a1, a2⟩ := px_upl hG hX
  obtain ⟨b1, b2⟩ := pm_upl hG hM
  cases hr : pu_all (fun i => T.getD i 0) T.length 61 u_0 0 0 with
  | ok q =>
    obtain ⟨x2, p1, p2⟩ := a1 q hr
    obtain ⟨m2, q1, q2, hu⟩ := b1 q hr
    refine ⟨_, x2, m2, p1, q1, 25 - w, q.1.1, q.1.2.1, q.1.2.2.1, u_D q.1, [], [], [], sd, rf, _, im, ⟨hu.1, hu.2.1, u_D_dk hu, ⟨by simp, fun E hE => (by cases hE)⟩, ⟨by simp, fun y hy => (by cases hy)⟩, ⟨by simp, fun y hy => (by cases hy)⟩, hG.2.2.2.2.2.2⟩, p2, q2⟩
  | error e =>
    obtain ⟨x2, p1, p2⟩ := a2 e hr
    obtain ⟨m2, q1, q2⟩ := b2 e hr
    exact ⟨_, x2, m2, p1, q1, w, l, P, nm, D, U, F, [], sd, _, _, im, hG.tape0, p2, q2⟩

/-! A question: the reference, and the call. -/
theorem RM.ask {τ τ' : sw_St} {l : Nat → Nat → Nat} {P : Nat → List Nat} {nm : g_N} {D : g_D} {U : List g_D} {F : List (Nat × Nat × Nat)} {T : List Nat} {sd : Nat} {rf : Nat → Int32} {ft : Int32 × Int32} {im : List Nat} {ft' : Int32 × Int32} (h : RM τ l P nm D U F T sd rf ft im) (m : pm_sx pm_scrS (1 :: 7 :: 8 :: 103 :: pm_scrK) τ τ') (h1 : τ'.1 0 1 = 0) (h7 : τ'.1 0 7 = ft'.1) (h8 : τ'.1 0 8 = ft'.2) : RM τ' l P nm D U F [] sd rf ft' im := by
  have r : ∀ o, o ≠ 0 → o ∉ pm_scrS → τ'.1 o = τ.1 o := fun o h0 ho => (m.1 o h0 ho).1
  have rk : ∀ k, k ∉ (1 :: 7 :: 8 :: 103 :: pm_scrK) → τ'.1 0 k = τ.1 0 k := fun k hk => m.2.1 k hk
  have n1 : pm_ld (pm_lo τ τ') l P := h.1.mv m.lo (by unfold pm_LS; decide)
  have n12 : pm_wd (pm_lo τ τ') := h.2.2.2.2.2.2.2.2.2.2.2.mv m.lo (by decide)
  exact h.gen n1 (m.1 29 (by decide) (by decide)).2 (h.2.2.1.mvr (r 37 (by decide) (by decide))) (h.2.2.2.1.mv (rk 68 (by decide)) (rk 67 (by decide)) (r 46 (by decide) (by decide))) (h.2.2.2.2.1.mv (rk 63 (by decide)) (r 44 (by decide) (by decide))) ⟨h1, fun i hi => by simp at hi⟩ (by rw [m.2.2 69 (by decide)]; exact h.2.2.2.2.2.2.1) (fun j hj => by rw [r 2 (by decide) (by decide)]; exact h.2.2.2.2.2.2.2.1 j hj) ⟨h7, h8⟩ (h.2.2.2.2.2.2.2.2.2.1.mv (rk 105 (by decide)) (r 74 (by decide) (by decide))) (by rw [rk 52 (by decide), rk 58 (by decide)]; exact h.2.2.2.2.2.2.2.2.2.2.1) n12
theorem pm_ask {τ : sw_St} {l : Nat → Nat → Nat} {P : Nat → List Nat} {nm : g_N} {D : g_D} {U : List g_D} {F : List (Nat × Nat × Nat)} {T : List Nat} {sd : Nat} {rf : Nat → Int32} {ft : Int32 × Int32} {im : List Nat} (hG : RG l P nm D U F T sd im) (h : RM τ l P nm D U F T sd rf ft im) :
    (∀ q, pq_rd (fun i => T.getD i 0) T.length = .ok q → ∃ τ', F_X11_ask τ = some (g_qr q.1 (g_qv l P D q.2) (l 0 2), τ') ∧ RM τ' l P nm D U F [] sd rf (nI 0, -1) im) ∧
    (∀ e, pq_rd (fun i => T.getD i 0) T.length = .error e → ∃ τ', F_X11_ask τ = some (-1000000000000000, τ') ∧ RM τ' l P nm D U F [] sd rf (nI e.1, nI e.2) im) := by
  have hT := hG.2.2.2.2.2.1
  have hDk := hG.2.2.1
  have hfu := sw_fuel_ge
  have h6 := hG.1.2.2.1
  have m0 : pm_sm [] [1, 2, 3, 4, 5, 6, 48, 95, 97, 98, 99] τ (sw_uI (sw_uI (sw_uI (sw_uI (sw_uI (sw_uI (sw_uI (sw_uI (sw_uI (sw_uI (sw_uI τ 0 3 (nI T.length)) 0 1 0) 0 2 0) 0 4 (-1)) 0 5 0) 0 6 (-1)) 0 48 3) 0 95 0) 0 97 0) 0 98 0) 0 99 0) := (((((((((((pm_sm.refl _ _ τ).K (by decide) _).K (by decide) _).K (by decide) _).K (by decide) _).K (by decide) _).K (by decide) _).K (by decide) _).K (by decide) _).K (by decide) _).K (by decide) _).K (by decide) _
  have e1 : (sw_uI (sw_uI (sw_uI (sw_uI (sw_uI (sw_uI (sw_uI (sw_uI (sw_uI (sw_uI (sw_uI τ 0 3 (nI T.length)) 0 1 0) 0 2 0) 0 4 (-1)) 0 5 0) 0 6 (-1)) 0 48 3) 0 95 0) 0 97 0) 0 98 0) 0 99 0).1 0 1 = 0 := by
    repeat rw [pz_Ik (by decide)]
    exact pz_Ie rfl rfl
  have hqs : pm_qs (sw_uI (sw_uI (sw_uI (sw_uI (sw_uI (sw_uI (sw_uI (sw_uI (sw_uI (sw_uI (sw_uI τ 0 3 (nI T.length)) 0 1 0) 0 2 0) 0 4 (-1)) 0 5 0) 0 6 (-1)) 0 48 3) 0 95 0) 0 97 0) 0 98 0) 0 99 0) (fun i => T.getD i 0) T.length 3 0 [] [] 0 0 := by
    refine ⟨⟨⟨fun i hi => ?_, ?_, h.2.2.2.2.2.2.2.2.2.2.2.mv m0 (by decide), ?_⟩, ⟨0, Nat.le_refl _, Nat.zero_le _, ?_⟩, ?_, 0, ?_, by omega, fun z => by omega, fun z => by cases z⟩, ⟨trivial, fun i hi => by simp at hi, ?_, ?_, ?_, ?_, by simp, fun o ho => by simp at ho, by omega, by omega⟩, ?_, by simp⟩
    · rw [m0.r (by decide) (by decide)]
      exact h.2.2.2.2.2.1.2 i hi
    all_goals
      (repeat rw [pz_Ik (by decide)])
      exact pz_Ie rfl rfl
  have eF : F_X11_ask τ = (F_X11_qKind (sw_uI (sw_uI (sw_uI (sw_uI (sw_uI (sw_uI (sw_uI (sw_uI (sw_uI (sw_uI (sw_uI τ 0 3 (nI T.length)) 0 1 0) 0 2 0) 0 4 (-1)) 0 5 0) 0 6 (-1)) 0 48 3) 0 95 0) 0 97 0) 0 98 0) 0 99 0)).bind fun q1 => if (q1.2.1 0 5) = 0 then (if 3 ≤ q1.1 then (S_X11_ask_82 q1.2 q1.1) else ((F_X11_qTest q1.2 ).bind fun q2 => S_X11_ask_93 q2.2 q1.1)) else (S_X11_ask_82 q1.2 q1.1) := by
    unfold F_X11_ask
    rw [h.2.2.2.2.2.1.1]
  generalize hgen : sw_uI (sw_uI (sw_uI (sw_uI (sw_uI (sw_uI (sw_uI (sw_uI (sw_uI (sw_uI (sw_uI τ 0 3 (nI T.length)) 0 1 0) 0 2 0) 0 4 (-1)) 0 5 0) 0 6 (-1)) 0 48 3) 0 95 0) 0 97 0) 0 98 0) 0 99 0 = τ0 at m0 e1 hqs eF
  obtain ⟨k1, k2⟩ := pm_rq hqs (g_tlt hT.2) hT.1 _ eF
  refine ⟨fun q hq => ?_, fun e he => ?_⟩
  · obtain ⟨hk, y, hy, hy1⟩ := pq_typ hq
    obtain ⟨τ1, p1, p2, p3, p4, p5, p6, p7⟩ := k1 q hq
    have kk : ∃ y0 : Int64, y0 = g_qr q.1 (g_qv l P D q.2) 0 ∧ F_X11_ask τ = L_X11_ask_167 sw_fuel (sw_uI (sw_uL (sw_uI (sw_uI τ1 0 7 (τ1.1 0 5)) 0 8 (τ1.1 0 6)) 0 102 y0) 0 103 1) (nI (q.1 - 281)) 0 := by
      refine ⟨_, rfl, ?_⟩
      rw [p1]
      unfold S_X11_ask_117 S_X11_ask_144 S_X11_ask_157
      rw [if_pos p2]
      show _ = L_X11_ask_167 sw_fuel (sw_uI (sw_uL _ 0 102 (if q.1 ≤ 282 then -1 else 0)) 0 103 1) (nI (q.1 - 281)) 0
      by_cases c : q.1 ≤ 282
      · rw [if_neg (show ¬ (2 : Int32) ≤ nI (q.1 - 281) from nI_ge (b := 2) (by omega) (by omega)), if_pos c]
      · rw [if_pos (show (2 : Int32) ≤ nI (q.1 - 281) from nI_le (a := 2) (by omega) (by omega)), if_neg c]
    obtain ⟨y0, ey, eA⟩ := kk
    have mA : pm_sx [] [7, 8, 103] τ1 (sw_uI (sw_uL (sw_uI (sw_uI τ1 0 7 (τ1.1 0 5)) 0 8 (τ1.1 0 6)) 0 102 y0) 0 103 1) := by
      refine ⟨fun o h0 _ => ⟨?_, ?_⟩, fun k hk => ?_, fun k hk => ?_⟩
      · funext j
        rw [pz_Io h0]
        show (sw_uI (sw_uI τ1 0 7 (τ1.1 0 5)) 0 8 (τ1.1 0 6)).1 o j = _
        rw [pz_Io h0, pz_Io h0]
      · show (sw_uL (sw_uI (sw_uI τ1 0 7 (τ1.1 0 5)) 0 8 (τ1.1 0 6)) 0 102 y0).2.1 o = _
        funext j
        rw [pz_Lo h0]
        rfl
      · simp at hk
        rw [pz_Ik hk.2.2]
        show (sw_uI (sw_uI τ1 0 7 (τ1.1 0 5)) 0 8 (τ1.1 0 6)).1 0 k = _
        rw [pz_Ik hk.2.1, pz_Ik hk.1]
      · show (sw_uL (sw_uI (sw_uI τ1 0 7 (τ1.1 0 5)) 0 8 (τ1.1 0 6)) 0 102 y0).2.1 0 k = _
        rw [pz_Lk hk]
        rfl
    have a102 : (sw_uI (sw_uL (sw_uI (sw_uI τ1 0 7 (τ1.1 0 5)) 0 8 (τ1.1 0 6)) 0 102 y0) 0 103 1).2.1 0 102 = y0 := by
      show (sw_uL (sw_uI (sw_uI τ1 0 7 (τ1.1 0 5)) 0 8 (τ1.1 0 6)) 0 102 y0).2.1 0 102 = y0
      exact pz_Le rfl rfl
    have a103 : (sw_uI (sw_uL (sw_uI (sw_uI τ1 0 7 (τ1.1 0 5)) 0 8 (τ1.1 0 6)) 0 102 y0) 0 103 1).1 0 103 = 1 := pz_Ie rfl rfl
    have a7 : (sw_uI (sw_uL (sw_uI (sw_uI τ1 0 7 (τ1.1 0 5)) 0 8 (τ1.1 0 6)) 0 102 y0) 0 103 1).1 0 7 = nI 0 := by
      rw [pz_Ik (by decide)]
      show (sw_uI (sw_uI τ1 0 7 (τ1.1 0 5)) 0 8 (τ1.1 0 6)).1 0 7 = nI 0
      rw [pz_Ik (by decide), pz_Ie rfl rfl, p2]
      rfl
    have a8 : (sw_uI (sw_uL (sw_uI (sw_uI τ1 0 7 (τ1.1 0 5)) 0 8 (τ1.1 0 6)) 0 102 y0) 0 103 1).1 0 8 = -1 := by
      rw [pz_Ik (by decide)]
      show (sw_uI (sw_uI τ1 0 7 (τ1.1 0 5)) 0 8 (τ1.1 0 6)).1 0 8 = -1
      rw [pz_Ie rfl rfl, p3]
    generalize hgA : sw_uI (sw_uL (sw_uI (sw_uI τ1 0 7 (τ1.1 0 5)) 0 8 (τ1.1 0 6)) 0 102 y0) 0 103 1 = τA at mA a102 a103 a7 a8 eA
    have m1 : pm_sx pm_scrS (1 :: 7 :: 8 :: 103 :: pm_scrK) τ τ1 := (m0.sx.mono (by decide) (by decide)).trans (pm_sx.mono (pm_sm.sx p7) (by decide) (by decide))
    have m2 : pm_sx pm_scrS (1 :: 7 :: 8 :: 103 :: pm_scrK) τ τA := m1.trans (mA.mono (by decide) (by decide))
    have hl2 : pm_ld (pm_lo τ τA) l P := h.1.mv m2.lo (by unfold pm_LS; decide)
    have hs2 : pm_st τA 37 0 l D := h.2.2.1.mvr (m2.1 37 (by decide) (by decide)).1
    have h52 : τA.1 0 52 = -1 := by rw [m2.2.1 52 (by decide)]; exact h.2.2.2.2.2.2.2.2.2.2.1.1
    obtain ⟨τ3, r1, r2, r3⟩ := pm_aall hG.1 (fun s hs => (hDk.2.2.2.1 s hs).1) (by have := hDk.1; omega) (nI (q.1 - 281)) (l 0 2) sw_fuel 0 τA (by omega) (by omega) hl2 hs2 h52 (fun i k hi => by omega)
    have m4 : pm_sm [40, 73] [48, 54, 55, 56, 101] τA (sw_uI τ3 0 48 3) := r2.K (by decide) _
    obtain ⟨τ5, s1, s2⟩ := pm_a235 (Q := q.2) (kd := q.1) (t := y) hG.1 hk (fun s hs => (hDk.2.2.2.1 s hs).1) (by have := hDk.1; omega) hy hy1 (by omega) (l 0 2) sw_fuel 0 (sw_uI τ3 0 48 3) (by omega) (by omega) (pm_ld.mv (τ := τA) hl2 m4 (by unfold pm_LS; decide)) (hs2.mvr (m4.1 37 (by decide) (by decide)).1) (by rw [m4.2.1 52 (by decide)]; exact h52) r3 (p4.mv (by rw [(m4.1 71 (by decide) (by decide)).1, (mA.1 71 (by decide) (by decide)).1])) (by rw [m4.2.1 95 (by decide), mA.2.1 95 (by decide)]; exact p5) (by rw [m4.2.2, a102, ey]) (by rw [m4.2.1 103 (by decide), a103, if_pos rfl])
    have m5 : pm_sx pm_scrS (1 :: 7 :: 8 :: 103 :: pm_scrK) τ τ5 := (m2.trans (m4.sx.mono (by decide) (by decide))).trans (s2.mono (by decide) (by decide))
    have m25 : pm_sx pm_scrS (103 :: [48, 54, 55, 56, 101]) τA τ5 := (m4.sx.mono (by decide) (by decide)).trans (s2.mono (by decide) (by decide))
    refine ⟨τ5, ?_, h.ask m5 ?_ (by rw [m25.2.1 7 (by decide)]; exact a7) (by rw [m25.2.1 8 (by decide)]; exact a8)⟩
    · rw [eA, show L_X11_ask_167 sw_fuel τA (nI (q.1 - 281)) 0 = _ from r1]
      exact s1
    · rw [m25.2.1 1 (by decide), mA.2.1 1 (by decide), p7.2.1 1 (by decide)]
      exact e1
  · obtain ⟨τ1, x, p1, p2, p3, p4, p5, p7⟩ := k2 e he
    have m1 : pm_sx pm_scrS (1 :: 7 :: 8 :: 103 :: pm_scrK) τ τ1 := (m0.sx.mono (by decide) (by decide)).trans (pm_sx.mono (pm_sm.sx p7) (by decide) (by decide))
    have mB : pm_sm [] [7, 8] τ1 (sw_uI (sw_uI τ1 0 7 (τ1.1 0 5)) 0 8 (τ1.1 0 6)) := ((pm_sm.refl _ _ τ1).K (by decide) _).K (by decide) _
    refine ⟨_, ?_, h.ask (m1.trans (mB.sx.mono (by decide) (by decide))) ?_ ?_ ?_⟩
    · rw [p1]
      unfold S_X11_ask_117 S_X11_ask_140
      rw [if_neg (by rw [p2]; exact nI_ne0 p4 (by omega))]
    · rw [mB.2.1 1 (by decide), p7.2.1 1 (by decide)]
      exact e1
    · rw [pz_Ik (by decide), pz_Ie rfl rfl]
      exact p2
    · rw [pz_Ie rfl rfl]
      exact p3
theorem op_33 : ll_33 RR := by
  intro x m hR
  obtain ⟨w, l, P, nm, D, U, F, T, sd, rf, ft, im, hG, hX, hM⟩ := hR
  obtain ⟨a1, a2⟩ := px_ask hG hX
  obtain ⟨b1, b2⟩ := pm_ask hG hM
  cases hr : pq_rd (fun i => T.getD i 0) T.length with
  | ok q =>
    obtain ⟨x2, p1, p2⟩ := a1 q hr
    obtain ⟨m2, q1, q2⟩ := b1 q hr
    exact ⟨_, x2, m2, p1, q1, w, l, P, nm, D, U, F, [], sd, rf, _, im, hG.tape0, p2, q2⟩
  | error e =>
    obtain ⟨x2, p1, p2⟩ := a2 e hr
    obtain ⟨m2, q1, q2⟩ := b2 e hr
    exact ⟨_, x2, m2, p1, q1, w, l, P, nm, D, U, F, [], sd, rf, _, im, hG.tape0, p2, q2⟩

/-! Acts on one sheep; acts undone. -/
theorem px_st.row {σ σ' : sw_St} {l : Nat → Nat → Nat} {D : g_D} {s : Nat} {row : Nat → Nat} {S : List Nat} (h : px_st σ 38 l D) (m : pz_sm S σ σ') (hS : ∀ o ∈ S, (39 ≤ o ∧ o ≤ 44) ∨ o < 38) (hn : px_sh σ' 38 (l 3 (2 * s + 1)) row s) (ho : ∀ t, t < l 0 2 → t ≠ s → px_sh σ' 38 (l 3 (2 * t + 1)) (D.2.1 t) t) : px_st σ' 38 l (g_dr D s row) := by
  have n38 : 38 ∉ S := fun z => by have := hS _ z; omega
  have n45 : 38 + 7 ∉ S := fun z => by have := hS _ z; omega
  obtain ⟨c1, c2, c3, c4, kf, d1, d2, d3, d4⟩ := h
  refine ⟨by rw [m.r n38]; exact c1, by rw [m.r n38]; exact c2, by rw [m.r n38]; exact c3, fun t ht => ?_, kf, d1, by rw [m.r n38]; exact d2, by rw [m.r n38]; exact d3, fun i hi => by rw [m.r n45]; exact d4 i hi⟩
  unfold g_dr
  dsimp only
  by_cases e : t = s
  · rw [if_pos e, e]
    exact hn
  · rw [if_neg e]
    exact ho t ht e
theorem pm_st.row {τ τ' : sw_St} {l : Nat → Nat → Nat} {D : g_D} {s : Nat} {row : Nat → Nat} (h : pm_st τ 37 0 l D) (h1 : l 0 1 ≤ 10) (h2 : l 0 2 ≤ 6) (hs : s < 6) (hr : ∀ i, i < 12 + 12 * s ∨ 24 + 12 * s ≤ i → τ'.1 37 i = τ.1 37 i) (hn : ∀ j, j < 12 → τ'.1 37 (12 + 12 * s + j) = nI (row j)) : pm_st τ' 37 0 l (g_dr D s row) := by
  obtain ⟨c1, c2, c3, c4, c5, c6⟩ := h
  refine ⟨by rw [hr 0 (by omega)]; exact c1, by rw [hr _ (by omega)]; exact c2, fun k hk => by rw [hr _ (by omega)]; exact c3 k hk, fun t j ht hj => ?_, by rw [hr _ (by omega)]; exact c5, fun i hi => ?_⟩
  · unfold g_dr
    dsimp only
    by_cases e : t = s
    · rw [if_pos e, e, Nat.zero_add]
      exact hn j hj
    · rw [if_neg e, hr _ (by omega)]
      exact c4 t j ht hj
  · rw [hr _ (by omega), hr _ (by omega), hr _ (by omega), hr _ (by omega)]
    exact c6 i hi
theorem g_dk.row {l : Nat → Nat → Nat} {D : g_D} {s : Nat} {row : Nat → Nat} (h : g_dk l D) (hr : g_rk (l 3 (2 * s + 1)) row) (hf : row 0 < l 0 0) (hz : ∀ j, l 0 0 ≤ j → j < 8 → row (4 + j) = 0) : g_dk l (g_dr D s row) := by
  refine ⟨h.1, h.2.1, h.2.2.1, fun t ht => ?_, h.2.2.2.2.1, h.2.2.2.2.2.1, fun t j ht h1 h2 => ?_⟩
  · unfold g_dr
    dsimp only
    by_cases e : t = s
    · rw [if_pos e, e]
      exact ⟨hr, hf⟩
    · rw [if_neg e]
      exact h.2.2.2.1 t ht
  · unfold g_dr
    dsimp only
    by_cases e : t = s
    · rw [if_pos e]
      exact hz j h1 h2
    · rw [if_neg e]
      exact h.2.2.2.2.2.2 t j ht h1 h2
theorem g_pass_z {l : Nat → Nat → Nat} {row : Nat → Nat} {k b : Nat} (hb : g_bey l k (row 0) = some b) (hb8 : b < l 0 0) (hz : ∀ j, l 0 0 ≤ j → j < 8 → row (4 + j) = 0) : ∀ j, l 0 0 ≤ j → j < 8 → g_pass l row k (4 + j) = 0 := fun j h1 h2 => by
  unfold g_pass
  rw [hb]
  dsimp only
  rw [if_neg (by omega), if_neg (by omega), if_neg (by omega), if_neg (by omega)]
  exact hz j h1 h2
theorem px_refB (x : sw_St) : (F_X10_refuse x 2).bind (fun q1 => some ((0 : Int32), q1.2)) = some (0, sw_uI x 226 2 (x.1 226 2 + 1)) := by
  rw [show (2 : Int32) = nI 2 from rfl, px_refuse (by omega)]
  rfl
theorem pm_refB (m : sw_St) : (F_X11_isRefused m).bind (fun q1 => if q1.1 = 0 ∨ q1.1 = 1 then some (q1.1, q1.2) else none) = some (0, sw_uI m 2 2 (m.1 2 2 + 1)) := rfl
theorem op_28 : ll_28 RR := by
  intro x m hR a b c
  obtain ⟨w, l, P, nm, D, U, F, T, sd, rf, ft, im, hG, hX, hM⟩ := hR
  have hR : RR x m := ⟨w, l, P, nm, D, U, F, T, sd, rf, ft, im, hG, hX, hM⟩
  have g0 := hG.1.1
  have g1 := hG.1.2.1
  have g2 := hG.1.2.2.1
  have hno : RR (sw_uI x 226 2 (x.1 226 2 + 1)) (sw_uI m 2 2 (m.1 2 2 + 1)) := hR.ref (by omega)
  unfold F_X10_tell F_X11_tell S_X10_tell_44 S_X11_tell_39
  rw [px_isSheep hG.1 hX.1, pm_isSheep hG.1 hM.1]
  dsimp only [Option.bind]
  by_cases h : g_in a (l 0 2) = true
  · obtain ⟨s, hs, rfl⟩ := g_in_of h
    rw [if_pos h, if_neg pz_10, if_neg pz_10, px_isField hG.1 hX.1, pm_isField hG.1 hM.1]
    dsimp only
    by_cases h' : g_in b (l 0 0) = true
    · obtain ⟨f, hf, rfl⟩ := g_in_of h'
      rw [if_pos h', if_neg pz_10, if_neg pz_10, pm_inL m c 99 (by decide)]
      dsimp only
      by_cases hc : g_in c 100 = true
      · obtain ⟨n, hn, rfl⟩ := g_in_of hc
        have xs := (hX.2.2.2.1.2.2.2.1 s hs).2.2.2.2.2 f (by omega)
        have msn := hM.2.2.1.2.2.2.1 s (4 + f) hs (by omega)
        rw [show 0 + (12 + 12 * s + (4 + f)) = 16 + 12 * s + f by omega] at msn
        rw [if_pos hc, if_neg pz_10, if_neg (nI_pos (by omega)), if_neg (show ¬ (99 : Int32) < nI n from nI_nlt (a := 99) (by omega) (by omega)), px_ix8, if_pos (pz_inb (show 8 * s + f < 48 by omega) (by omega)), nI_clamp (by omega), xs, pm_seenOf (by omega) (by omega)]
        dsimp only
        rw [msn]
        by_cases he : nI (D.2.1 s (4 + f)) = nI n
        · rw [if_pos he, if_pos he]
          exact ⟨0, _, _, px_refB x, pm_refB m, hno⟩
        · rw [if_neg he, if_neg he]
          obtain ⟨σ1, p1, p2⟩ := hX.keep hG
          obtain ⟨τ1, q1, q2⟩ := hM.keep hG
          rw [p1, q1]
          dsimp only
          rw [if_pos (pz_inb (show 8 * s + f < 48 by omega) (by omega)), pm_ix, nI_add, if_pos (pz_inb (show 16 + 12 * s + f < 245 by omega) (by omega)), nI_clamp (by omega)]
          obtain ⟨⟨r1, r2, r3, r4, r5, r6⟩, hrf⟩ := hG.2.2.1.2.2.2.1 s hs
          have hdk : g_dk l (g_dr D s (fun j => if j = 4 + f then n else D.2.1 s j)) := hG.2.2.1.row ⟨r1, by dsimp only; rw [if_neg (by omega)]; exact r2, by dsimp only; rw [if_neg (by omega)]; exact r3, by dsimp only; rw [if_neg (by omega)]; exact r4, by dsimp only; rw [if_neg (by omega)]; exact r5, fun i hi => by
            dsimp only
            split
            · omega
            · exact r6 i hi⟩ (by (try dsimp only); rw [if_neg (by omega)]; exact hrf) (fun j h1 h2 => by (try dsimp only); rw [if_neg (by omega)]; exact hG.2.2.1.2.2.2.2.2.2 s j hs h1 h2)
          refine ⟨1, _, _, rfl, rfl, w, l, P, nm, _, (D :: U).take 20, F, T, sd, rf, ft, im, hG.keep hdk, ?_, ?_⟩
          · have ms : pz_sm [44] σ1 (sw_uI σ1 44 (8 * s + f) (nI n)) := (pz_sm.refl _ σ1).I (by decide) _ _
            refine p2.setD ms (by decide) (p2.2.2.2.1.row ms (by decide) ?_ (fun t ht hne => ?_)) (by rw [ms.r (by decide)]; exact p2.2.2.2.2.2.2.2.2.2.2.2.1)
            · obtain ⟨s1, s2, s3, s4, s5, s6⟩ := p2.2.2.2.1.2.2.2.1 s hs
              refine ⟨?_, ?_, ?_, ?_, by rw [pz_Io (by decide)]; exact s5, fun i hi => ?_⟩
              · dsimp only; rw [pz_Io (by decide), if_neg (by omega)]; exact s1
              · dsimp only; rw [pz_Io (by decide), if_neg (by omega)]; exact s2
              · dsimp only; rw [pz_Io (by decide), if_neg (by omega)]; exact s3
              · dsimp only; rw [pz_Io (by decide), if_neg (by omega)]; exact s4
              · dsimp only
                by_cases e : i = f
                · rw [pz_Ie rfl (by omega), if_pos (by omega)]
                · rw [pz_Ik (by omega), if_neg (by omega)]
                  exact s6 i hi
            · obtain ⟨s1, s2, s3, s4, s5, s6⟩ := p2.2.2.2.1.2.2.2.1 t ht
              exact ⟨by rw [pz_Io (by decide)]; exact s1, by rw [pz_Io (by decide)]; exact s2, by rw [pz_Io (by decide)]; exact s3, by rw [pz_Io (by decide)]; exact s4, by rw [pz_Io (by decide)]; exact s5, fun i hi => by rw [pz_Ik (by omega)]; exact s6 i hi⟩
          · refine q2.setD (S := [37]) (K := []) ((pm_sm.refl _ _ τ1).I (by decide) (by decide) _ _) (by decide) (by decide) (q2.2.2.1.row g1 g2 (by omega) (fun i hi => by rw [pz_Ik (by omega)]) (fun j hj => ?_))
            try dsimp only
            by_cases e : j = 4 + f
            · rw [pz_Ie rfl (by omega), if_pos e]
            · rw [pz_Ik (by omega), if_neg e]
              have := q2.2.2.1.2.2.2.1 s j hs hj
              rwa [Nat.zero_add] at this
      · rw [if_neg hc, if_pos rfl]
        refine ⟨0, _, _, ?_, pm_refB m, hno⟩
        rcases g_in_no hc (by omega) with q | ⟨q1, q2, q3⟩
        · rw [if_pos q]
          exact px_refB x
        · rw [if_neg q1, if_pos (show (99 : Int32) < c from by rw [fa_lt, show (99 : Int32).toInt = 99 from by decide]; rw [fa_le, nI_toInt (by omega)] at q2; omega)]
          exact px_refB x
    · rw [if_neg h', if_pos rfl, if_pos rfl]
      exact ⟨0, _, _, px_refB x, pm_refB m, hno⟩
  · rw [if_neg h, if_pos rfl, if_pos rfl]
    exact ⟨0, _, _, px_refB x, pm_refB m, hno⟩
theorem op_26 : ll_26 RR := by
  intro x m hR a b
  obtain ⟨w, l, P, nm, D, U, F, T, sd, rf, ft, im, hG, hX, hM⟩ := hR
  have hR : RR x m := ⟨w, l, P, nm, D, U, F, T, sd, rf, ft, im, hG, hX, hM⟩
  have g0 := hG.1.1
  have g1 := hG.1.2.1
  have g2 := hG.1.2.2.1
  have hno : RR (sw_uI x 226 2 (x.1 226 2 + 1)) (sw_uI m 2 2 (m.1 2 2 + 1)) := hR.ref (by omega)
  have hoL := hG.2.2.1.2.2.1
  have h2p : 2 ^ l 0 1 ≤ 2 ^ 10 := Nat.pow_le_pow_right (by omega) g1
  unfold F_X10_lead F_X11_lead S_X10_lead_32 S_X11_lead_27
  rw [px_isSheep hG.1 hX.1, pm_isSheep hG.1 hM.1]
  dsimp only [Option.bind]
  by_cases h : g_in a (l 0 2) = true
  · obtain ⟨s, hs, rfl⟩ := g_in_of h
    obtain ⟨hr, hf⟩ := hG.2.2.1.2.2.2.1 s hs
    have hxv := hX.2.2.2.1.vw (Or.inl rfl) hs g2
    have hmv := hM.2.2.1.vw hM.1 hs g2 hM.2.2.2.2.2.2.2.2.2.2.1.1
    rw [if_pos h, if_neg pz_10, if_neg pz_10, px_isGap hG.1 hX.1, pm_isGap hG.1 hM.1]
    dsimp only
    by_cases h' : g_in b (l 0 1) = true
    · obtain ⟨k, hk, rfl⟩ := g_in_of h'
      rw [if_pos h', if_neg pz_10, if_neg pz_10, pm_beyond hG.1 hM.1 hM.2.2.1.op hmv hr hk]
      dsimp only
      have eL : F_X2_leads x 38 (nI s) (nI k) = some (if (D.1 2).testBit k = true ∧ (g_bey l k (D.2.1 s 0)).isSome = true then 1 else 0, x) := by
        unfold F_X2_leads S_X2_leads_34 S_X2_leads_35
        rw [if_pos (st_O (Or.inl rfl)), hX.2.2.2.1.2.2.1]
        by_cases hb : (D.1 2).testBit k = true
        · rw [if_pos ((px_bitT (by omega) (by omega)).mpr hb), hX.1.2.1]
          dsimp only [Option.bind]
          rw [if_pos (st_O (Or.inl rfl)), if_pos (st_A1 (Or.inl rfl)), st_n1 (Or.inl rfl), if_pos (pz_inb (show s < 6 by omega) (by omega)), if_pos (ld_O hX.1.1), nI_clamp (by omega), hxv.2.2.2.2.1, px_beyond hG.1 hX.1 hk hr.2.1]
          dsimp only
          cases hbe : g_bey l k (D.2.1 s 0) with
          | none =>
            rw [if_pos (by rfl), if_pos (Or.inl rfl), if_neg (by simp)]
          | some b =>
            have := g_bey_lt hG.1 hk hbe
            rw [if_neg (by exact pz_nm1 (by omega)), if_pos (Or.inr rfl), if_pos (by simp [hb])]
        · rw [if_neg (fun z => hb ((px_bitT (by omega) (by omega)).mp z)), if_pos (Or.inl rfl), if_neg (fun z => hb z.1)]
      by_cases hb : (D.1 2).testBit k = true
      · rw [if_pos hb]
        cases hbe : g_bey l k (D.2.1 s 0) with
        | none =>
          rw [hbe, if_neg (by simp)] at eL
          rw [eL]
          dsimp only
          rw [if_pos rfl, if_pos (by rfl)]
          exact ⟨0, _, _, px_refB x, pm_refB m, hno⟩
        | some b =>
          have hb8 := g_bey_lt hG.1 hk hbe
          rw [hbe, if_pos (by simp [hb])] at eL
          rw [eL]
          dsimp only
          rw [if_neg pz_10, if_neg (by exact pz_nm1 (by omega))]
          obtain ⟨σ1, p1, p2⟩ := hX.keep hG
          obtain ⟨τ1, q1, q2⟩ := hM.keep hG
          have hxv1 := p2.2.2.2.1.vw (Or.inl rfl) hs g2
          have hmv1 := q2.2.2.1.vw q2.1 hs g2 q2.2.2.2.2.2.2.2.2.2.2.1.1
          obtain ⟨σ2, c1, c2, c3, c4, -⟩ := px_pass hG.1 p2.1 hxv1 hr hk hbe
          obtain ⟨τ2, d1, d2, d3, d4⟩ := pm_goes hG.1 q2.1 q2.2.2.1.op hmv1 hr hk hb hbe
          rw [p1, q1]
          dsimp only
          rw [c1, d1]
          dsimp only
          rw [if_pos (pz_inb (show s < 6 by omega) (by omega)), nI_clamp (by omega), pm_ix, if_pos (pz_inb (show 15 + 12 * s < 245 by omega) (by omega)), nI_clamp (by omega)]
          obtain ⟨r1, r2, r3, r4, r5, r6⟩ := g_pass_rk hG.1 hk hr
          have hf2 : g_pass l (D.2.1 s) k 0 < l 0 0 := by
            unfold g_pass
            rw [hbe]
            exact hb8.1
          have hdk : g_dk l (g_dr D s (fun j => if j = 3 then 1 else g_pass l (D.2.1 s) k j)) := hG.2.2.1.row ⟨r1, by dsimp only; rw [if_neg (by omega)]; exact r2, by dsimp only; rw [if_neg (by omega)]; exact r3, by dsimp only; rw [if_neg (by omega)]; exact r4, by dsimp only; rw [if_pos rfl]; omega, fun i hi => by dsimp only; rw [if_neg (by omega)]; exact r6 i hi⟩ (by (try dsimp only); rw [if_neg (by omega)]; exact hf2) (fun j h1 h2 => by (try dsimp only); rw [if_neg (by omega)]; exact g_pass_z hbe hb8.1 (fun j h1 h2 => hG.2.2.1.2.2.2.2.2.2 s j hs h1 h2) j h1 h2)
          refine ⟨1, _, _, rfl, rfl, w, l, P, nm, _, (D :: U).take 20, F, T, sd, rf, ft, im, hG.keep hdk, ?_, ?_⟩
          · have ms : pz_sm [39, 40, 41, 42, 44] σ1 (sw_uI σ2 42 s 1) := (c3.mono (by decide)).I (by decide) _ _
            refine p2.setD ms (by decide) (p2.2.2.2.1.row ms (by decide) ?_ (fun t ht hne => ?_)) (by rw [ms.r (by decide)]; exact p2.2.2.2.2.2.2.2.2.2.2.2.1)
            · obtain ⟨-, -, -, -, s1, s2, s3, s4, s5, s6⟩ := c2
              refine ⟨?_, ?_, ?_, pz_Ie rfl rfl, by rw [pz_Io (by decide)]; exact s5, fun i hi => ?_⟩
              · dsimp only; rw [pz_Io (by decide), if_neg (by omega)]; exact s1
              · dsimp only; rw [pz_Io (by decide), if_neg (by omega)]; exact s2
              · dsimp only; rw [pz_Io (by decide), if_neg (by omega)]; exact s3
              · dsimp only; rw [pz_Io (by decide), if_neg (by omega)]; exact s6 i hi
            · have hxt := c4 t _ _ hne (p2.2.2.2.1.vw (Or.inl rfl) ht g2)
              obtain ⟨-, -, -, -, s1, s2, s3, s4, s5, s6⟩ := hxt
              exact ⟨by rw [pz_Io (by decide)]; exact s1, by rw [pz_Io (by decide)]; exact s2, by rw [pz_Io (by decide)]; exact s3, by rw [pz_Ik hne]; exact s4, by rw [pz_Io (by decide)]; exact s5, fun i hi => by rw [pz_Io (by decide)]; exact s6 i hi⟩
          · refine q2.setD (S := [37]) (K := []) (d3.I (by decide) (by decide) _ _) (by decide) (by decide) (q2.2.2.1.row g1 g2 (by omega) (fun i hi => by rw [pz_Ik (by omega), d4 i hi]) (fun j hj => ?_))
            try dsimp only
            by_cases e : j = 3
            · rw [pz_Ie rfl (by omega), if_pos e]
              rfl
            · rw [pz_Ik (by omega), if_neg e]
              exact d2.2.2.1 j hj
      · rw [if_neg (fun z => hb z.1)] at eL
        rw [eL, if_neg hb]
        dsimp only
        rw [if_pos rfl, if_pos (by rfl)]
        exact ⟨0, _, _, px_refB x, pm_refB m, hno⟩
    · rw [if_neg h', if_pos rfl, if_pos rfl]
      exact ⟨0, _, _, px_refB x, pm_refB m, hno⟩
  · rw [if_neg h, if_pos rfl, if_pos rfl]
    exact ⟨0, _, _, px_refB x, pm_refB m, hno⟩

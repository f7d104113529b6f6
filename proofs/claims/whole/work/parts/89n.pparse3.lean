/-! Parts: the class; and all together. -/
theorem px_pmm {rc : Nat → sw_St → Int32 → Option (Int32 × sw_St)} {pr : Nat → Nat → Nat → tR} {t : Nat → Nat} {N co use k d b o : Nat} {x2 : Int32} (hc : px_isC co) (ht : ∀ i, t i < 256) (hN : N ≤ 1600) (hR : px_PG rc pr t N co use k) (hk : pp_nd 5 d ≤ k + 1) (hd : d ≤ 6) (hb : b ≤ N) (ho : x2 = 279 ∧ o = 5 ∨ x2 = 280 ∧ o = 6) : px_cp (fun σ => if (σ.1 2 2) = 40 then ((F_X3_opens σ (nI d)).bind fun q2 => if q2.1 = 0 then (S_X3_part_204 rc q2.2) else ((rc 3 q2.2 (nI d + 1)).bind fun q3 => if q3.1 = 0 then (S_X3_part_204 rc q3.2) else ((F_X6_expect q3.2 44).bind fun q4 => if q4.1 = 0 then (S_X3_part_204 rc q4.2) else ((rc 3 q4.2 (nI d + 1)).bind fun q5 => if q5.1 = 0 then (S_X3_part_204 rc q5.2) else ((F_X6_expect q5.2 41).bind fun q6 => if q6.1 = 0 then (S_X3_part_204 rc q6.2) else ((q6.2.2.2 32 2).bind fun w7 => (if x2 = 279 then (S_X3_part_226 rc q6.2 10017 w7) else (S_X3_part_226 rc q6.2 10018 w7)))))))) else ((F_X6_fail σ 1 (σ.1 2 3)).bind fun q8 => if q8.1 = 0 ∨ q8.1 = 1 then some (q8.1, q8.2) else none)) t N co use 1 0 b (pp_mm t N pr d b o) := by
  unfold pp_nd at hk
  unfold pp_mm
  by_cases c1 : tk_k t N b = 40
  · rw [if_pos c1]
    have k40 : ∀ σ, px_rs σ t N b → σ.1 2 2 = 40 := fun σ hs => (px_kne hs ht (c := 40) (by omega)).mpr c1
    by_cases c2 : 6 ≤ d
    · rw [if_pos c2]
      refine px_cp.er (fun σ hs => ?_)
      obtain ⟨σ', p1, p2⟩ := px_opensN hs c2 (by omega)
      refine ⟨σ', ?_, p2⟩
      rw [if_pos (k40 σ hs), p1]
      dsimp only [Option.bind_some]
      rw [if_pos rfl]
      rfl
    · rw [if_neg c2]
      refine (px_cp.ad (m := 1) (z := 0) (G := fun σ => (rc 3 σ (nI (d + 1))).bind fun q3 => if q3.1 = 0 then (S_X3_part_204 rc q3.2) else ((F_X6_expect q3.2 44).bind fun q4 => if q4.1 = 0 then (S_X3_part_204 rc q4.2) else ((rc 3 q4.2 (nI (d + 1))).bind fun q5 => if q5.1 = 0 then (S_X3_part_204 rc q5.2) else ((F_X6_expect q5.2 41).bind fun q6 => if q6.1 = 0 then (S_X3_part_204 rc q6.2) else ((q6.2.2.2 32 2).bind fun w7 => (if x2 = 279 then (S_X3_part_226 rc q6.2 10017 w7) else (S_X3_part_226 rc q6.2 10018 w7))))))) hc hb (by omega) (fun σ hs => ?_) ?_).w (Nat.le_refl _) (by omega)
      · obtain ⟨σ1, p1, p2, p3⟩ := px_opens hs ht hN hb (show d < 6 by omega)
        refine ⟨σ1, p2, p3, ?_⟩
        rw [if_pos (k40 σ hs), p1]
        dsimp only [Option.bind_some]
        rw [if_neg pz_10, nI_1]
      · refine (px_cp.sq (z2 := 1) (G := fun b1 σ => (F_X6_expect σ 44).bind fun q4 => if q4.1 = 0 then (S_X3_part_204 rc q4.2) else ((rc 3 q4.2 (nI (d + 1))).bind fun q5 => if q5.1 = 0 then (S_X3_part_204 rc q5.2) else ((F_X6_expect q5.2 41).bind fun q6 => if q6.1 = 0 then (S_X3_part_204 rc q6.2) else ((q6.2.2.2 32 2).bind fun w7 => (if x2 = 279 then (S_X3_part_226 rc q6.2 10017 w7) else (S_X3_part_226 rc q6.2 10018 w7)))))) hc (hR 3 (d + 1) (tk_e t N b) (by unfold pp_nd; omega) (by omega) (by omega) (tk_e_sp t hb).2.1) (fun σ σ' hs e => ?_) (fun σ σ' b1 hs _ _ _ _ _ e => ?_) (fun b1 h1 h2 => ?_)).w (Nat.le_refl _) (by omega)
        · (try dsimp only at e ⊢)
          rw [e]
          rfl
        · (try dsimp only at e ⊢)
          rw [e]
          dsimp only [Option.bind_some]
          rw [if_neg pz_10]
        · refine px_cp.ex (z := 0) (G := fun σ => (rc 3 σ (nI (d + 1))).bind fun q5 => if q5.1 = 0 then (S_X3_part_204 rc q5.2) else ((F_X6_expect q5.2 41).bind fun q6 => if q6.1 = 0 then (S_X3_part_204 rc q6.2) else ((q6.2.2.2 32 2).bind fun w7 => (if x2 = 279 then (S_X3_part_226 rc q6.2 10017 w7) else (S_X3_part_226 rc q6.2 10018 w7))))) hc ht hN h2 (by omega) (by omega) (fun σ σ' e => ?_) (fun σ σ' e => ?_) ?_
          · rw [show F_X6_expect σ 44 = _ from e]
            rfl
          · rw [show F_X6_expect σ 44 = _ from e]
            dsimp only [Option.bind_some]
            rw [if_neg pz_10]
          · refine (px_cp.sq (z2 := 1) (G := fun b3 σ => (F_X6_expect σ 41).bind fun q6 => if q6.1 = 0 then (S_X3_part_204 rc q6.2) else ((q6.2.2.2 32 2).bind fun w7 => (if x2 = 279 then (S_X3_part_226 rc q6.2 10017 w7) else (S_X3_part_226 rc q6.2 10018 w7)))) hc (hR 3 (d + 1) (tk_e t N b1) (by unfold pp_nd; omega) (by omega) (by omega) (tk_e_sp t h2).2.1) (fun σ σ' hs e => ?_) (fun σ σ' b3 hs _ _ _ _ _ e => ?_) (fun b3 h3 h4 => ?_)).w (Nat.le_refl _) (by omega)
            · (try dsimp only at e ⊢)
              rw [e]
              rfl
            · (try dsimp only at e ⊢)
              rw [e]
              dsimp only [Option.bind_some]
              rw [if_neg pz_10]
            · refine px_cp.ex (z := 0) (G := fun σ => (σ.2.2 32 2).bind fun w7 => (if x2 = 279 then (S_X3_part_226 rc σ 10017 w7) else (S_X3_part_226 rc σ 10018 w7))) hc ht hN h4 (by omega) (by omega) (fun σ σ' e => ?_) (fun σ σ' e => ?_) ?_
              · rw [show F_X6_expect σ 41 = _ from e]
                rfl
              · rw [show F_X6_expect σ 41 = _ from e]
                dsimp only [Option.bind_some]
                rw [if_neg pz_10]
              · rw [pp_okap [o] _]
                refine px_cp.em (G := fun σ => some (1, σ)) hc hN (tk_e_sp t h4).2.1 (fun σ σ' hs hco e => ?_) (px_cp.nl (tk_e_sp t h4).2.1 (fun σ _ => rfl))
                rw [hco]
                dsimp only [Option.bind_some]
                unfold S_X3_part_226
                rcases ho with ⟨h5, h6⟩ | ⟨h5, h6⟩
                · rw [h6] at e
                  rw [if_pos h5, if_pos hc.sh.1, show F_X0_emit σ co 10017 = _ from e]
                  rfl
                · rw [h6] at e
                  rw [if_neg (show ¬ x2 = 279 from by rw [h5]; decide), if_pos hc.sh.1, show F_X0_emit σ co 10018 = _ from e]
                  rfl
  · rw [if_neg c1]
    refine px_cp.er (fun σ hs => ?_)
    obtain ⟨σ', p1, p2⟩ := px_fail (σ := σ) (kd := 1) (pl := tk_s t N b)
    refine ⟨σ', ?_, p2⟩
    rw [if_neg (show ¬ σ.1 2 2 = 40 from fun y => c1 ((px_kne hs ht (c := 40) (by omega)).mp y)), hs.2.2.1, show F_X6_fail σ 1 (nI (tk_s t N b)) = _ from p1]
    dsimp only [Option.bind_some]
    rw [if_pos (Or.inl rfl)]
theorem pp_var_lt {kd use v : Nat} (h : pp_var kd use = some v) : v < 10 := by
  unfold pp_var at h
  repeat' split at h
  all_goals first
    | (have h2 := Option.some.inj h; omega)
    | cases h
theorem pp_var_301 {use v : Nat} (h : pp_var 301 use = some v) : False := by
  unfold pp_var at h
  rw [if_neg (by decide), if_neg (by decide), if_neg (by decide), if_neg (by decide), if_neg (by decide), if_neg (by decide), if_neg (by decide), if_neg (by decide), if_neg (by decide), if_neg (by decide)] at h
  cases h
theorem px_ppart {rc : Nat → sw_St → Int32 → Option (Int32 × sw_St)} {pr : Nat → Nat → Nat → tR} {t : Nat → Nat} {N co use k d b : Nat} (hc : px_isC co) (ht : ∀ i, t i < 256) (hN : N ≤ 1600) (hu : use ≤ 3) (hR : px_PG rc pr t N co use k) (hk : pp_nd 5 d ≤ k + 1) (hd : d ≤ 6) (hb : b ≤ N) : px_cp (fun σ => F_X3_part rc σ (nI d)) t N co use 0 1 b (pp_part t N use pr d b) := by
  have hk' := hk
  unfold pp_nd at hk
  unfold pp_part
  by_cases c1 : tk_k t N b = 40
  · rw [if_pos c1]
    have k40 : ∀ σ, px_rs σ t N b → σ.1 2 2 = 40 := fun σ hs => (px_kne hs ht (c := 40) (by omega)).mpr c1
    by_cases c2 : 6 ≤ d
    · rw [if_pos c2]
      refine px_cp.er (fun σ hs => ?_)
      obtain ⟨σ', p1, p2⟩ := px_opensN hs c2 (by omega)
      refine ⟨σ', ?_, p2⟩
      unfold F_X3_part S_X3_part_115 S_X3_part_116
      rw [if_pos (k40 σ hs), p1]
      dsimp only [Option.bind_some]
      rw [if_pos rfl, if_pos (Or.inl rfl)]
    · rw [if_neg c2]
      refine px_cp.ad (z := 0) (G := fun σ => (rc 3 σ (nI (d + 1))).bind fun q2 => if q2.1 = 0 then (S_X3_part_115 rc q2.2) else ((F_X6_expect q2.2 41).bind fun q3 => if q3.1 = 0 then (S_X3_part_115 rc q3.2) else (S_X3_part_116 rc q3.2 1))) hc hb (by omega) (fun σ hs => ?_) ?_
      · obtain ⟨σ1, p1, p2, p3⟩ := px_opens hs ht hN hb (show d < 6 by omega)
        refine ⟨σ1, p2, p3, ?_⟩
        unfold F_X3_part
        rw [if_pos (k40 σ hs), p1]
        dsimp only [Option.bind_some]
        rw [if_neg pz_10, nI_1]
      · refine (px_cp.sq (z2 := 1) (G := fun b1 σ => (F_X6_expect σ 41).bind fun q3 => if q3.1 = 0 then (S_X3_part_115 rc q3.2) else (S_X3_part_116 rc q3.2 1)) hc (hR 3 (d + 1) (tk_e t N b) (by unfold pp_nd; omega) (by omega) (by omega) (tk_e_sp t hb).2.1) (fun σ σ' hs e => ?_) (fun σ σ' b1 hs _ _ _ _ _ e => ?_) (fun b1 h1 h2 => ?_)).w (Nat.le_refl _) (by omega)
        · (try dsimp only at e ⊢)
          rw [e]
          dsimp only [Option.bind_some]
          rw [if_pos rfl]
          unfold S_X3_part_115 S_X3_part_116
          rw [if_pos (Or.inl rfl)]
        · (try dsimp only at e ⊢)
          rw [e]
          dsimp only [Option.bind_some]
          rw [if_neg pz_10]
        · refine px_cp.ex (G := fun σ => some (1, σ)) hc ht hN h2 (by omega) (by omega) (fun σ σ' e => ?_) (fun σ σ' e => ?_) (px_cp.nl (tk_e_sp t h2).2.1 (fun σ _ => rfl))
          · rw [show F_X6_expect σ 41 = _ from e]
            dsimp only [Option.bind_some]
            rw [if_pos rfl]
            unfold S_X3_part_115 S_X3_part_116
            rw [if_pos (Or.inl rfl)]
          · rw [show F_X6_expect σ 41 = _ from e]
            dsimp only [Option.bind_some]
            rw [if_neg pz_10]
            unfold S_X3_part_116
            rw [if_pos (Or.inr rfl)]
  · rw [if_neg c1]
    have n40 : ∀ σ, px_rs σ t N b → ¬ σ.1 2 2 = 40 := fun σ hs y => c1 ((px_kne hs ht (c := 40) (by omega)).mp y)
    by_cases c2 : tk_k t N b = 279
    · rw [if_pos c2]
      refine px_cp.ad hc hb (by omega) (fun σ hs => ?_) (px_pmm (x2 := 279) hc ht hN hR hk' hd (tk_e_sp t hb).2.1 (Or.inl ⟨rfl, rfl⟩))
      obtain ⟨σ1, q1, q2, q3⟩ := px_adv hs.1 ht hN (tk_e_sp t hb).2.1 hs.2.2.2
      refine ⟨σ1, q2, q3, ?_⟩
      unfold F_X3_part S_X3_part_117
      rw [if_neg (n40 σ hs), show σ.1 2 2 = 279 from (px_kne hs ht (c := 279) (by omega)).mpr c2, if_pos rfl, q1]
      rfl
    · rw [if_neg c2]
      have n279 : ∀ σ, px_rs σ t N b → ¬ σ.1 2 2 = 279 := fun σ hs y => c2 ((px_kne hs ht (c := 279) (by omega)).mp y)
      by_cases c3 : tk_k t N b = 280
      · rw [if_pos c3]
        refine px_cp.ad hc hb (by omega) (fun σ hs => ?_) (px_pmm (x2 := 280) hc ht hN hR hk' hd (tk_e_sp t hb).2.1 (Or.inr ⟨rfl, rfl⟩))
        obtain ⟨σ1, q1, q2, q3⟩ := px_adv hs.1 ht hN (tk_e_sp t hb).2.1 hs.2.2.2
        refine ⟨σ1, q2, q3, ?_⟩
        unfold F_X3_part S_X3_part_117
        rw [if_neg (n40 σ hs), if_neg (n279 σ hs), show σ.1 2 2 = 280 from (px_kne hs ht (c := 280) (by omega)).mpr c3, if_pos rfl, q1]
        rfl
      · rw [if_neg c3]
        have n280 : ∀ σ, px_rs σ t N b → ¬ σ.1 2 2 = 280 := fun σ hs y => c3 ((px_kne hs ht (c := 280) (by omega)).mp y)
        by_cases c4 : tk_k t N b = 300
        · rw [if_pos c4]
          have k300 : ∀ σ, px_rs σ t N b → σ.1 2 2 = 300 := fun σ hs => (px_kne hs ht (c := 300) (by omega)).mpr c4
          intro σ n0 h1 h2 h3 h4 h5
          obtain ⟨σ1, p1⟩ := px_tnum (x2 := 9999) (lo := 0) (lim := 10000) h1 ht hN hb (by omega) (by decide)
          cases hn : tk_num t N 0 10000 b with
          | error e =>
            rw [hn] at p1
            (try dsimp only at p1)
            refine ⟨fun q hq => (by cases hq), fun e2 he2 => ?_⟩
            rw [← Except.error.inj he2]
            refine ⟨σ1, ?_, p1.2.po co, p1.2.2.1, p1.2.2.2.1⟩
            show F_X3_part rc σ (nI d) = _
            unfold F_X3_part
            rw [if_neg (n40 σ h1), if_neg (n279 σ h1), if_neg (n280 σ h1), if_pos (k300 σ h1), show F_X6_takeNumber σ 0 9999 = _ from p1.1]
            dsimp only [Option.bind_some]
            rw [if_pos rfl]
          | ok r =>
            rw [hn] at p1
            (try dsimp only at p1)
            obtain ⟨r1, r2, r3, r4, r5, r6⟩ := p1
            have n1 : co ∉ [2] := by unfold px_isC at hc; simp; omega
            have po1 := r3.po co
            obtain ⟨σ2, s1, s2, s3, s4, s5⟩ := px_em1 (o := 1000 + r.1) hc r2 (show σ1.1 co 1 = nI n0 from by rw [r3.1.r n1]; exact h4) (by omega)
            have ex : px_xc (1000 + r.1) = r.1 := by
              unfold px_xc
              rw [if_pos (by omega)]
              omega
            refine ⟨fun q hq => ?_, fun e he => (by cases he)⟩
            rw [← Except.ok.inj hq]
            refine ⟨σ2, ?_, s2, po1.trans s3, ⟨by rw [s4.1]; exact r3.2.2.1, by rw [s4.2]; exact r3.2.2.2.1⟩, s5.pre hc r3, by (try dsimp only); omega, r5, by simp; omega⟩
            show F_X3_part rc σ (nI d) = _
            unfold F_X3_part
            rw [if_neg (n40 σ h1), if_neg (n279 σ h1), if_neg (n280 σ h1), if_pos (k300 σ h1), show F_X6_takeNumber σ 0 9999 = _ from r1]
            dsimp only [Option.bind_some]
            rw [if_neg (pz_nm1 (by omega)), (po1.r32 hc 2).2, h3]
            dsimp only [Option.bind_some]
            rw [ex] at s1
            rw [if_pos hc.sh.1, s1]
            rfl
        · rw [if_neg c4]
          have n300 : ∀ σ, px_rs σ t N b → ¬ σ.1 2 2 = 300 := fun σ hs y => c4 ((px_kne hs ht (c := 300) (by omega)).mp y)
          have k3 : ∀ σ : sw_St, σ.1 32 3 = nI use → (σ.1 32 3 = 3 ↔ use = 3) := fun σ h2 => by rw [h2]; exact nI_eq (b := 3) (by omega) (by omega)
          by_cases c5 : use = 3 ∧ (tk_k t N b = 271 ∨ tk_k t N b = 265)
          · rw [if_pos c5]
            have eS : ∀ σ, px_rs σ t N b → σ.1 32 3 = nI use → F_X3_part rc σ (nI d) = S_X3_part_253 rc σ (nI d) (nI (tk_k t N b)) := fun σ hs h2 => by
              unfold F_X3_part
              rw [if_neg (n40 σ hs), if_neg (n279 σ hs), if_neg (n280 σ hs), if_neg (n300 σ hs), if_pos ((k3 σ h2).mpr c5.1), hs.2.1]
              rcases c5.2 with h6 | h6
              · rw [if_pos (show nI (tk_k t N b) = 271 from by rw [h6]; rfl)]
              · rw [if_neg (show ¬ nI (tk_k t N b) = 271 from by rw [h6]; decide), if_pos (show nI (tk_k t N b) = 265 from by rw [h6]; rfl)]
            have hcp : px_cp (fun σ => S_X3_part_253 rc σ (nI d) (nI (tk_k t N b))) t N co use 0 1 b (if 6 ≤ d then .error (4, tk_s t N b) else pp_sq (pr 5 (d + 1) (tk_e t N b)) (fun b1 => .ok ([if tk_k t N b = 271 then 60 else 61], b1))) := by
              by_cases c2 : 6 ≤ d
              · rw [if_pos c2]
                refine px_cp.er (fun σ hs => ?_)
                obtain ⟨σ', p1, p2⟩ := px_opensN hs c2 (by omega)
                refine ⟨σ', ?_, p2⟩
                unfold S_X3_part_253 S_X3_part_271
                rw [p1]
                dsimp only [Option.bind_some]
                rw [if_pos rfl]
              · rw [if_neg c2]
                refine px_cp.ad (z := 0) (G := fun σ => (rc 5 σ (nI (d + 1))).bind fun q2 => if q2.1 = 0 then (S_X3_part_271 rc q2.2) else ((q2.2.2.2 32 2).bind fun w3 => (if nI (tk_k t N b) = 271 then (S_X3_part_293 rc q2.2 10022 w3) else (S_X3_part_293 rc q2.2 10023 w3)))) hc hb (by omega) (fun σ hs => ?_) ?_
                · obtain ⟨σ1, p1, p2, p3⟩ := px_opens hs ht hN hb (show d < 6 by omega)
                  refine ⟨σ1, p2, p3, ?_⟩
                  unfold S_X3_part_253
                  rw [p1]
                  dsimp only [Option.bind_some]
                  rw [if_neg pz_10, nI_1]
                · refine (px_cp.sq (z2 := 0) (G := fun b1 σ => (σ.2.2 32 2).bind fun w3 => (if nI (tk_k t N b) = 271 then (S_X3_part_293 rc σ 10022 w3) else (S_X3_part_293 rc σ 10023 w3))) hc (hR 5 (d + 1) (tk_e t N b) (by unfold pp_nd; omega) (by omega) (by omega) (tk_e_sp t hb).2.1) (fun σ σ' hs e => ?_) (fun σ σ' b1 hs _ _ _ _ _ e => ?_) (fun b1 h1 h2 => ?_)).w (Nat.le_refl _) (by omega)
                  · (try dsimp only at e ⊢)
                    rw [e]
                    rfl
                  · (try dsimp only at e ⊢)
                    rw [e]
                    dsimp only [Option.bind_some]
                    rw [if_neg pz_10]
                  · (try dsimp only)
                    rw [pp_okap [if tk_k t N b = 271 then 60 else 61] b1]
                    refine px_cp.em (G := fun σ => some (1, σ)) hc hN h2 (fun σ σ' hs hco e => ?_) (px_cp.nl h2 (fun σ _ => rfl))
                    rw [hco]
                    dsimp only [Option.bind_some]
                    unfold S_X3_part_293
                    rcases c5.2 with h6 | h6
                    · rw [if_pos h6] at e
                      rw [if_pos (show nI (tk_k t N b) = 271 from by rw [h6]; rfl), if_pos hc.sh.1, show F_X0_emit σ co 10022 = _ from e]
                      rfl
                    · rw [if_neg (show ¬ tk_k t N b = 271 by omega)] at e
                      rw [if_neg (show ¬ nI (tk_k t N b) = 271 from by rw [h6]; decide), if_pos hc.sh.1, show F_X0_emit σ co 10023 = _ from e]
                      rfl
            intro σ n0 h1 h2 h3 h4 h5
            have := hcp σ n0 h1 h2 h3 h4 h5
            (try dsimp only at this ⊢)
            rw [eS σ h1 h2]
            exact this
          · rw [if_neg c5]
            have hkl := tk_k_lt ht N b
            have eS : ∀ σ, px_rs σ t N b → σ.1 32 3 = nI use → F_X3_part rc σ (nI d) = S_X3_part_298 rc σ (nI (tk_k t N b)) := fun σ hs h2 => by
              unfold F_X3_part
              rw [if_neg (n40 σ hs), if_neg (n279 σ hs), if_neg (n280 σ hs), if_neg (n300 σ hs), hs.2.1]
              by_cases h6 : use = 3
              · rw [if_pos ((k3 σ h2).mpr h6), if_neg (show ¬ nI (tk_k t N b) = 271 from fun y => c5 ⟨h6, Or.inl ((nI_eq (b := 271) (by omega) (by omega)).mp y)⟩), if_neg (show ¬ nI (tk_k t N b) = 265 from fun y => c5 ⟨h6, Or.inr ((nI_eq (b := 265) (by omega) (by omega)).mp y)⟩)]
              · rw [if_neg (fun y => h6 ((k3 σ h2).mp y))]
            intro σ n0 h1 h2 h3 h4 h5
            (try dsimp only)
            rw [eS σ h1 h2]
            unfold S_X3_part_298
            rw [h2, px_var hkl hu]
            dsimp only [Option.bind_some]
            cases hv : pp_var (tk_k t N b) use with
            | none =>
              obtain ⟨σ', p1, p2⟩ := px_fail (σ := σ) (kd := 1) (pl := tk_s t N b)
              refine ⟨fun q hq => (by cases hq), fun e he => ?_⟩
              rw [← Except.error.inj he]
              refine ⟨σ', ?_, p2.po co, p2.2.1, p2.2.2.1⟩
              rw [if_pos (show oI none = -1 from rfl), h1.2.2.1, show F_X6_fail σ 1 (nI (tk_s t N b)) = _ from p1]
              dsimp only [Option.bind_some]
              rw [if_pos (Or.inl rfl)]
            | some v =>
              have hv10 : v < 10 := pp_var_lt hv
              have hk1 : tk_k t N b ≠ 301 := fun y => by rw [y] at hv; exact pp_var_301 hv
              have hg := tk_e_gt hb hk1
              obtain ⟨σ1, p1, p2, p3, p4, p5⟩ := px_em1 (o := 40 + v) hc h1 h4 (by omega)
              obtain ⟨σ2, q1, q2, q3⟩ := px_adv p2.1 ht hN (tk_e_sp t hb).2.1 p2.2.2.2
              have ex : (10000 : Int32) + nI v = nI (px_xc (40 + v)) := by
                rw [show (10000 : Int32) = nI 10000 from rfl, nI_add]
                congr 1
                unfold px_xc
                rw [if_neg (by omega), if_neg (by omega), if_pos (by omega)]
                omega
              refine ⟨fun q hq => ?_, fun e he => (by cases he)⟩
              rw [← Except.ok.inj hq]
              refine ⟨σ2, ?_, q2, p3.trans (q3.po co), ⟨by rw [q3.2.2.1]; exact p4.1, by rw [q3.2.2.2.1]; exact p4.2⟩, p5.mv hc q3, by (try dsimp only); omega, (tk_e_sp t hb).2.1, by simp; omega⟩
              rw [if_neg (show ¬ oI (some v) = -1 from pz_nm1 (by omega)), show oI (some v) = nI v from rfl, h3]
              dsimp only [Option.bind_some]
              rw [if_pos hc.sh.1, ex, p1]
              dsimp only [Option.bind_some]
              rw [q1]
              rfl
theorem px_parse {t : Nat → Nat} {N co use : Nat} (hc : px_isC co) (ht : ∀ i, t i < 256) (hN : N ≤ 1600) (hu : use ≤ 3) : ∀ k, px_PG (R_pg k) (fun g d b => pp t N use k g d b) t N co use k
  | 0 => fun g d b h1 h2 h3 h4 => by
    unfold pp_nd at h1
    omega
  | k + 1 => fun g d b h1 h2 h3 h4 => by
    have ih := px_parse hc ht hN hu k
    have hfu := sw_fuel_ge
    have eP : pp t N use (k + 1) g d b = pp_st t N use (fun g d b => pp t N use k g d b) g d b := rfl
    (try dsimp only)
    rw [eP]
    have h1' := h1
    unfold pp_nd at h1'
    have g6 : g = 0 ∨ g = 1 ∨ g = 2 ∨ g = 3 ∨ g = 4 ∨ g = 5 := by omega
    unfold pp_st
    rcases g6 with e | e | e | e | e | e
    · rw [if_pos e]
      have := px_ltest hc ht hN (fun b1 hb1 => ih 1 d b1 (by unfold pp_nd; omega) (by omega) h3 hb1) (N + 1) sw_fuel b 0 [] h4 (by omega) (by omega) (by omega) (Or.inl ⟨rfl, rfl⟩)
      rw [e]
      exact this
    · rw [if_neg (by omega), if_pos e]
      have := px_lboth hc ht hN (fun b1 hb1 => ih 2 d b1 (by unfold pp_nd; omega) (by omega) h3 hb1) (N + 1) sw_fuel b 0 [] h4 (by omega) (by omega) (by omega) (Or.inl ⟨rfl, rfl⟩)
      rw [e]
      exact this
    · rw [if_neg (by omega), if_neg (by omega), if_pos e]
      rw [e] at h1 ⊢
      exact px_pfact hc ht hN ih h1 h3 h4
    · rw [if_neg (by omega), if_neg (by omega), if_neg (by omega), if_pos e]
      have := px_lsum hc ht hN (fun b1 hb1 => ih 4 d b1 (by unfold pp_nd; omega) (by omega) h3 hb1) (N + 1) sw_fuel b 0 [] (-1) h4 (by omega) (by omega) (by omega) (Or.inl ⟨rfl, rfl⟩)
      rw [e]
      exact this
    · rw [if_neg (by omega), if_neg (by omega), if_neg (by omega), if_neg (by omega), if_pos e]
      have := px_lproduct hc ht hN (fun b1 hb1 => ih 5 d b1 (by unfold pp_nd; omega) (by omega) h3 hb1) (N + 1) sw_fuel b 0 [] (-1) h4 (by omega) (by omega) (by omega) (Or.inl ⟨rfl, rfl⟩)
      rw [e]
      exact this
    · rw [if_neg (by omega), if_neg (by omega), if_neg (by omega), if_neg (by omega), if_neg (by omega)]
      rw [e] at h1 ⊢
      exact px_ppart hc ht hN hu ih h1 h3 h4

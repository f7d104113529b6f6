/-! What a question asks of one sheep: the class. -/
def g_qof (l : Nat → Nat → Nat) (P : Nat → List Nat) (day opn cur : Nat) (row : Nat → Nat) (s v : Nat) (a : Int) : Int :=
  if a < 0 then 0 else if v = 0 then (if a.toNat < l 0 0 then (row (4 + a.toNat) : Int) else 0)
  else if a.toNat < l 0 1 ∧ opn.testBit a.toNat = true then (match g_bey l a.toNat (row 0) with | some b => g_lure l P day cur row s a.toNat b | none => 0) else 0
theorem g_lure_rg {l : Nat → Nat → Nat} {P : Nat → List Nat} {day cur s k b : Nat} {row : Nat → Nat} (hg : g_ld l P) (hr : g_rk cur row) (hd : day ≤ 100000) (hs : s < 6) (hk : k < l 0 1) (hb : b < l 0 0) : -1000000 ≤ g_lure l P day cur row s k b ∧ g_lure l P day cur row s k b ≤ 1000000 := by
  have hE : pe_env 0 (g_env l day cur row s b (l 2 (3 * k + 2))) g_of := g_envok hg hr hd hs (fun _ => hb) (hg.2.2.2.2.2.1 k hk).2.2.2.1 (by omega)
  have h1 := pe_run_ok hE (T := []) (S := []) trivial hg.2.2.2.2.2.2.2.1
  obtain ⟨v, S1, e, g1, -⟩ := pe_ok_cons h1
  unfold g_lure g_val
  rw [e]
  exact ⟨g1.1, g1.2.1⟩
theorem g_qenv {l : Nat → Nat → Nat} {P : Nat → List Nat} {day opn cur s : Nat} {row : Nat → Nat} (hg : g_ld l P) (hr : g_rk cur row) (hd : day ≤ 100000) (hs : s < 6) : pe_env 3 (g_env l day cur row s 0 0) (g_qof l P day opn cur row s) := by
  refine ⟨fun v hv => ?_, fun _ v a => ?_⟩
  · have h10 := pe_al_lt hv
    have n345 : v ≠ 3 ∧ v ≠ 4 ∧ v ≠ 5 := by
      refine ⟨fun z => ?_, fun z => ?_, fun z => ?_⟩ <;> (rw [z] at hv; cases hv)
    obtain ⟨r1, r2, r3, r4, r5, r6⟩ := hr
    have key : g_en l day cur row s 0 0 v ≤ 100000 := by
      unfold g_en
      rw [if_neg n345.1, if_neg n345.2.1, if_neg n345.2.2]
      (repeat' split) <;> omega
    unfold g_env
    omega
  · unfold g_qof
    split
    · omega
    · next ha =>
      split
      · split
        · next h =>
          have := hr.2.2.2.2.2 a.toNat (by have := hg.1; omega)
          omega
        · omega
      · split
        · next h =>
          cases hb : g_bey l a.toNat (row 0) with
          | none => dsimp only; omega
          | some b => exact g_lure_rg hg hr hd hs h.1 (g_bey_lt hg h.1 hb).1
        · omega
theorem px_xcn {c : Nat} {T T' : List Nat} (h : pe_ty 3 c T = some T') (hk : c < 60 ∨ 1000 ≤ c) : px_xc c < 10022 := by
  unfold pe_ty at h
  unfold px_xc
  by_cases h1 : 1000 ≤ c
  · rw [if_pos h1] at h ⊢
    have := (sw_ifs h).1
    omega
  rw [if_neg h1] at h ⊢
  have h2 : ¬ 60 ≤ c := by omega
  rw [if_neg h2] at h ⊢
  by_cases h3 : 40 ≤ c
  · rw [if_pos h3] at h ⊢
    have := pe_al_lt (sw_ifs h).1.1
    omega
  rw [if_neg h3] at h ⊢
  by_cases h4 : c = 13
  · rw [if_pos h4]; omega
  by_cases h5 : c = 12
  · rw [if_neg h4, if_pos h5]; omega
  rw [if_neg h4, if_neg h5] at h ⊢
  have h6 : c ≤ 11 := by
    by_cases z : c ≤ 11
    · exact z
    · rw [if_neg (by omega), if_neg (by omega), if_neg (by omega)] at h
      cases h
  (repeat' split) <;> omega
theorem px_leads {σ : sw_St} {w day opn cur s k : Nat} {row : Nat → Nat} {l : Nat → Nat → Nat} {P : Nat → List Nat} (hg : g_ld l P) (hl : px_ld σ w l P) (h : px_vw σ 38 day opn cur row s) (hr : g_rk cur row) (ho : opn < 2 ^ 31) (hk : k < l 0 1) : F_X2_leads σ 38 (nI s) (nI k) = some (if opn.testBit k = true ∧ (g_bey l k (row 0)).isSome = true then 1 else 0, σ) := by
  have hk10 := hg.2.1
  have hs := h.2.1
  unfold F_X2_leads S_X2_leads_34 S_X2_leads_35
  rw [if_pos (st_O (Or.inl rfl)), h.2.2.2.1]
  by_cases hb : opn.testBit k = true
  · rw [if_pos ((px_bitT ho (by omega)).mpr hb), hl.2.1]
    dsimp only [Option.bind]
    rw [if_pos (st_O (Or.inl rfl)), if_pos (st_A1 (Or.inl rfl)), st_n1 (Or.inl rfl), if_pos (pz_inb (show s < 6 by omega) (by omega)), if_pos (ld_O hl.1), nI_clamp (by omega), h.2.2.2.2.1, px_beyond hg hl hk hr.2.1]
    dsimp only
    cases hbe : g_bey l k (row 0) with
    | none =>
      rw [if_pos (by rfl), if_pos (Or.inl rfl), if_neg (by simp)]
    | some b =>
      have := g_bey_lt hg hk hbe
      rw [if_neg (by exact pz_nm1 (by omega)), if_pos (Or.inr rfl), if_pos (by simp [hb])]
  · rw [if_neg (fun z => hb ((px_bitT ho (by omega)).mp z)), if_pos (Or.inl rfl), if_neg (fun z => hb z.1)]
/-- one code of a question -/
theorem px_qstep {σ : sw_St} {w day opn cur s c a : Nat} {row : Nat → Nat} {l : Nat → Nat → Nat} {P : Nat → List Nat} {T T' : List Nat} {S : List Int} {n : Nat} (c17 : sw_St → Nat → Int32 → Nat → Int32 → Option (Int32 × sw_St)) (hg : g_ld l P) (hl : px_ld σ w l P) (h : px_vw σ 38 day opn cur row s) (hr : g_rk cur row) (hd : day ≤ 100000) (ho : opn < 2 ^ 31) (hvs : px_vs σ l day cur row s) (hS : pe_ok T S) (hT : T.length ≤ 60) (hty : pe_ty 3 c T = some T') (hs : px_sk σ S) (ht : σ.1 34 2 = nI S.length) (ha : a < n) (hn : n ≤ 1608) (h4 : σ.1 4 1 = nI n) (h5 : σ.1 5 a = nI (px_xc c)) :
    ∃ σ', S_X2_questionOf_17 c17 σ 38 (nI s) 4 (nI a) = c17 σ' 38 (nI s) 4 (nI (a + 1)) ∧ px_sk σ' (pe_st (g_env l day cur row s 0 0) (g_qof l P day opn cur row s) c S) ∧ σ'.1 34 2 = nI (pe_st (g_env l day cur row s 0 0) (g_qof l P day opn cur row s) c S).length ∧ pz_sm [34, 35, 36] σ σ' ∧ px_vs σ' l day cur row s := by
  have hs6 := h.2.1
  have hE := g_qenv (opn := opn) hg hr hd hs6
  have hc := (px_isC.sh (co := 4) (Or.inl rfl))
  have hlen := pe_ok_len hS
  have c2 : sw_isA sw_gX (4 + 1) 0 = true := hc.2.1
  have c4 : sw_ln sw_gX (4 + 1) = 1608 := hc.2.2.2
  unfold S_X2_questionOf_17
  rw [if_pos hc.1, h4, if_neg (nI_ge ha (by omega)), if_pos hc.1, if_pos c2, c4, if_pos (pz_inb (show a < 1608 by omega) (by omega)), nI_clamp (by omega), show σ.1 (4 + 1) a = nI (px_xc c) from h5]
  by_cases hcc : c < 60 ∨ 1000 ≤ c
  · have hx := px_xcn hty hcc
    rw [if_neg (fun z => by rw [show (10022 : Int32) = nI 10022 from rfl, nI_eq (by omega) (by omega)] at z; omega), if_neg (fun z => by rw [show (10023 : Int32) = nI 10023 from rfl, nI_eq (by omega) (by omega)] at z; omega)]
    have hv : ∀ v, pe_al 3 v = true → (σ.1 35 v).toInt = g_env l day cur row s 0 0 v := fun v hv => by
      have hb1 := hE.1 v hv
      unfold g_env at hb1 ⊢
      rw [hvs v (pe_al_lt hv) (fun z => by rw [z] at hv; cases hv) (fun z => by rw [z] at hv; cases hv) (fun z => by rw [z] at hv; cases hv), nI_toInt (by omega)]
    obtain ⟨σ1, p1, p2, p3, p4⟩ := px_step (B := []) hE hcc hv hS hT hty (by rw [List.append_nil]; exact hs) (by rw [List.append_nil]; exact ht) (by simp)
    rw [List.append_nil] at p2 p3
    rw [p1]
    dsimp only [Option.bind_some]
    unfold S_X2_questionOf_212
    rw [nI_1]
    exact ⟨σ1, rfl, p2, p3, p4.mono (by decide), fun v v1 v2 v3 v4 => by rw [p4.r (by decide)]; exact hvs v v1 v2 v3 v4⟩
  · have hc61 : c = 60 ∨ c = 61 := by
      unfold pe_ty at hty
      rw [if_neg (by omega), if_pos (by omega)] at hty
      have := (sw_ifs hty).1
      omega
    have hp1 : ∃ T1, T = 0 :: T1 ∧ T' = 0 :: T1 := by
      unfold pe_ty at hty
      rw [if_neg (by omega), if_pos (by omega)] at hty
      exact pe_p1_sp (sw_ifs hty).2
    obtain ⟨T1, eT, -⟩ := hp1
    rw [eT] at hS hT
    obtain ⟨v, S1, eS, g1, g2⟩ := pe_ok_cons hS
    have hl1 := pe_ok_len g2
    rw [eS] at hs ht
    simp only [List.length_cons] at ht hT
    obtain ⟨x, σ1, hx, p1, p2, p3, p4⟩ := px_pop hs ht (by omega)
    have est : pe_st (g_env l day cur row s 0 0) (g_qof l P day opn cur row s) c S = g_qof l P day opn cur row s (c - 60) v :: S1 := by
      unfold pe_st
      rw [if_neg (by omega), if_pos (by omega), eS]
    have hvs1 : px_vs σ1 l day cur row s := fun v v1 v2 v3 v4 => by rw [p4.r (by decide)]; exact hvs v v1 v2 v3 v4
    have hl1' := hl.mv p4 (by decide)
    have hv1 := h.mv p4 (by decide)
    -- what is put back
    have put : ∀ (σ2 : sw_St) (y : Int64), y.toInt = g_qof l P day opn cur row s (c - 60) v → pz_sm [34, 35, 36] σ1 σ2 → px_vs σ2 l day cur row s → px_sk σ2 S1 → σ2.1 34 2 = nI S1.length → ∃ σ', ((F_X7_push σ2 y).bind fun q1 => S_X2_questionOf_212 c17 q1.2 38 (nI s) 4 (nI a)) = c17 σ' 38 (nI s) 4 (nI (a + 1)) ∧ px_sk σ' (pe_st (g_env l day cur row s 0 0) (g_qof l P day opn cur row s) c S) ∧ σ'.1 34 2 = nI (pe_st (g_env l day cur row s 0 0) (g_qof l P day opn cur row s) c S).length ∧ pz_sm [34, 35, 36] σ σ' ∧ px_vs σ' l day cur row s := fun σ2 y hy m2 hv2 k1 k2 => by
      obtain ⟨σ3, u1, u2, u3, u4⟩ := px_push (y := y) k1 k2 (by omega)
      have hb := hE.2 rfl (c - 60) v
      rw [hy, pe_clip_id hb.1 hb.2] at u2
      rw [u1]
      dsimp only [Option.bind_some]
      unfold S_X2_questionOf_212
      rw [nI_1, est]
      exact ⟨σ3, rfl, u2, u3, (p4.mono (by decide)).trans (m2.trans (u4.mono (by decide))), fun v v1 v2 v3 v4 => by rw [u4.r (by decide)]; exact hv2 v v1 v2 v3 v4⟩
    have hy0 : (0 : Int64).toInt = 0 := by decide
    rcases hc61 with e | e
    · rw [e, show nI (px_xc 60) = 10022 from rfl, if_pos rfl, p1]
      rw [e] at put
      dsimp only [Option.bind_some]
      unfold S_X2_questionOf_73 S_X2_questionOf_74 S_X2_questionOf_102
      by_cases hn0 : x < 0
      · rw [if_pos hn0, if_pos rfl]
        refine put σ1 0 ?_ (pz_sm.refl _ _) hvs1 p2 p3
        have hv0 : v < 0 := by have z := Int32.lt_iff_toInt_lt.mp hn0; rw [show (0 : Int32).toInt = 0 from by decide, hx] at z; exact z
        unfold g_qof
        rw [if_pos hv0, hy0]
      · obtain ⟨j, hj, ej⟩ := nI_of hn0
        have hvj : v = (j : Int) := by rw [← hx, ej, nI_toInt hj]
        rw [if_neg hn0, hl1'.2.1, ej]
        dsimp only [Option.bind_some]
        rw [if_pos (ld_O hl1'.1), hl1'.2.2.1]
        have hg8 := hg.1
        by_cases hjl : j < l 0 0
        · rw [if_neg (nI_ge hjl (by omega)), if_neg pz_10, if_pos (st_O (Or.inl rfl)), if_pos (st_A6 (Or.inl rfl)), st_n6 (Or.inl rfl), px_ix8, if_pos (pz_inb (by omega) (by omega)), nI_clamp (by omega), hv1.2.2.2.2.2.2.2.2.2 j (by omega)]
          refine put σ1 _ ?_ (pz_sm.refl _ _) hvs1 p2 p3
          have := hr.2.2.2.2.2 j (by omega)
          unfold g_qof
          rw [px_wide, nI_toInt (by omega), hvj, if_neg (by omega), if_pos rfl, if_pos (by simpa using hjl)]
          rfl
        · rw [if_pos (nI_le (by omega) hj), if_pos rfl]
          refine put σ1 0 ?_ (pz_sm.refl _ _) hvs1 p2 p3
          unfold g_qof
          rw [hvj, if_neg (by omega), if_pos rfl, if_neg (by simpa using hjl), hy0]
    · rw [e, show nI (px_xc 61) = 10023 from rfl, if_neg (by decide), if_pos rfl, p1]
      rw [e] at put
      dsimp only [Option.bind_some]
      unfold S_X2_questionOf_157 S_X2_questionOf_158 S_X2_questionOf_197
      by_cases hn0 : x < 0
      · rw [if_pos hn0, if_pos rfl]
        refine put σ1 0 ?_ (pz_sm.refl _ _) hvs1 p2 p3
        have hv0 : v < 0 := by have z := Int32.lt_iff_toInt_lt.mp hn0; rw [show (0 : Int32).toInt = 0 from by decide, hx] at z; exact z
        unfold g_qof
        rw [if_pos hv0, hy0]
      · obtain ⟨j, hj, ej⟩ := nI_of hn0
        have hvj : v = (j : Int) := by rw [← hx, ej, nI_toInt hj]
        rw [if_neg hn0, hl1'.2.1, ej]
        dsimp only [Option.bind_some]
        rw [if_pos (ld_O hl1'.1), hl1'.2.2.2.1]
        have hg8 := hg.2.1
        by_cases hjl : j < l 0 1
        · rw [if_neg (nI_ge hjl (by omega))]
          have eL := px_leads hg hl1' hv1 hr ho hjl
          have eq : g_qof l P day opn cur row s (61 - 60) v = if opn.testBit j = true then (match g_bey l j (row 0) with | some b => g_lure l P day cur row s j b | none => 0) else 0 := by
            unfold g_qof
            rw [hvj, if_neg (by omega), if_neg (by omega)]
            simp only [Int.toNat_natCast, hjl, true_and]
          rw [eq] at put
          by_cases hb : opn.testBit j = true
          · rw [if_pos hb] at put
            cases hbe : g_bey l j (row 0) with
            | none =>
              rw [hbe] at put
              rw [hbe, if_neg (by simp)] at eL
              rw [eL]
              dsimp only [Option.bind_some]
              rw [if_pos rfl, if_pos rfl]
              exact put σ1 0 hy0 (pz_sm.refl _ _) hvs1 p2 p3
            | some b =>
              rw [hbe] at put
              have hb8 := g_bey_lt hg hjl hbe
              rw [hbe, if_pos ⟨hb, rfl⟩] at eL
              rw [eL]
              dsimp only [Option.bind_some]
              rw [if_neg pz_10, if_neg pz_10, hl1'.2.1]
              dsimp only [Option.bind_some]
              rw [if_pos (st_O (Or.inl rfl)), if_pos (st_A1 (Or.inl rfl)), st_n1 (Or.inl rfl), if_pos (pz_inb (show s < 6 by omega) (by omega)), if_pos (ld_O hl1'.1), nI_clamp (by omega), hv1.2.2.2.2.1, px_beyond hg hl1' hjl hr.2.1, hbe]
              dsimp only [Option.bind_some, oI]
              obtain ⟨z, σ2, u1, u2, u3, u4, u5, u6⟩ := px_pull (B := S1) hg hl1' hv1 hr hd hjl hb8.1 hvs1 (by omega) p2 p3
              rw [u1]
              dsimp only [Option.bind_some]
              exact put σ2 _ (by rw [px_wide]; exact u2) u3 u4 u5 u6
          · rw [if_neg hb] at put
            rw [if_neg (fun z => hb z.1)] at eL
            rw [eL]
            dsimp only [Option.bind_some]
            rw [if_pos rfl, if_pos rfl]
            exact put σ1 0 hy0 (pz_sm.refl _ _) hvs1 p2 p3
        · rw [if_pos (nI_le (by omega) hj), if_pos rfl]
          refine put σ1 0 ?_ (pz_sm.refl _ _) hvs1 p2 p3
          unfold g_qof
          rw [hvj, if_neg (by omega), if_neg (by omega), if_neg (fun z => hjl (by simpa using z.1)), hy0]
/-- a question of one sheep -/
theorem px_qloop {w day opn cur s t n : Nat} {row : Nat → Nat} {l : Nat → Nat → Nat} {P : Nat → List Nat} (hg : g_ld l P) (hr : g_rk cur row) (hd : day ≤ 100000) (ho : opn < 2 ^ 31) (hn : n ≤ 1608) : ∀ (Q : List Nat) (fuel a : Nat) (σ : sw_St) (T : List Nat) (S : List Int), Q.length < fuel → a + Q.length = n → px_cd σ 5 a Q → σ.1 4 1 = nI n → px_ld σ w l P → px_vw σ 38 day opn cur row s → px_vs σ l day cur row s → pe_ok T S → T.length ≤ 60 → pe_wt 3 Q T = some [t] → px_sk σ S → σ.1 34 2 = nI S.length →
    ∃ x σ', L_X2_questionOf_17 fuel σ 38 (nI s) 4 (nI a) = some (x, σ') ∧ pe_run (g_env l day cur row s 0 0) (g_qof l P day opn cur row s) Q S = [x.toInt] ∧ σ'.1 34 2 = nI 0 ∧ pz_sm [34, 35, 36] σ σ'
  | [], fuel + 1, a, σ, T, S, _, ha, hc, h4, hl, h, hvs, hS, hT, hty, hs, ht => by
    have eT : T = [t] := Option.some.inj hty
    rw [eT] at hS
    obtain ⟨v, S1, eS, g1, g2⟩ := pe_ok_cons hS
    cases S1 with
    | cons _ _ => exact g2.elim
    | nil =>
      rw [eS] at hs ht
      obtain ⟨x, σ1, hx, p1, p2, p3, p4⟩ := px_pop hs ht (by simp)
      refine ⟨x, σ1, ?_, ?_, p3, p4.mono (by decide)⟩
      · show S_X2_questionOf_17 _ σ 38 (nI s) 4 (nI a) = _
        unfold S_X2_questionOf_17
        have ha : a = n := by simpa using ha
        rw [if_pos (px_isC.sh (co := 4) (Or.inl rfl)).1, h4, if_pos (nI_le (by omega) (by omega)), p1]
        rfl
      · show S = _
        rw [eS, hx]
  | c :: Q, fuel + 1, a, σ, T, S, hf, ha, hc, h4, hl, h, hvs, hS, hT, hty, hs, ht => by
    obtain ⟨T1, e1, e2⟩ := sw_bnd hty
    simp only [List.length_cons] at ha hf
    obtain ⟨σ1, p1, p2, p3, p4, p5⟩ := px_qstep (n := n) (fun σ o1 x2 o3 x4 => L_X2_questionOf_17 fuel σ o1 x2 o3 x4) hg hl h hr hd ho hvs hS hT e1 hs ht (by omega) hn h4 hc.hd
    have hE := g_qenv (opn := opn) hg hr hd h.2.1
    obtain ⟨x, σ2, q1, q2, q3, q4⟩ := px_qloop hg hr hd ho hn Q fuel (a + 1) σ1 T1 _ (by omega) (by omega) (hc.tl.mv (p4 5 (by decide)).1) (by rw [p4.r (by decide)]; exact h4) (hl.mv p4 (by decide)) (h.mv p4 (by decide)) p5 (pe_st_ok hE hS e1) (pe_ty_len hT e1) e2 p2 p3
    refine ⟨x, σ2, ?_, q2, q3, p4.trans q4⟩
    show S_X2_questionOf_17 _ σ 38 (nI s) 4 (nI a) = _
    rw [p1]
    exact q1
theorem px_question {σ : sw_St} {w day opn cur s t : Nat} {row : Nat → Nat} {l : Nat → Nat → Nat} {P : Nat → List Nat} {Q : List Nat} (hg : g_ld l P) (hl : px_ld σ w l P) (h : px_vw σ 38 day opn cur row s) (hr : g_rk cur row) (hd : day ≤ 100000) (ho : opn < 2 ^ 31) (hc : px_cd σ 5 0 Q) (h4 : σ.1 4 1 = nI Q.length) (hty : pe_wt 3 Q [] = some [t]) :
    ∃ x σ', F_X2_questionOf σ 38 (nI s) 4 = some (x, σ') ∧ x.toInt = (pe_run (g_env l day cur row s 0 0) (g_qof l P day opn cur row s) Q []).headD 0 ∧ σ'.1 34 2 = nI 0 ∧ pz_sm [34, 35, 36] σ σ' := by
  have hfu := sw_fuel_ge
  obtain ⟨σ1, p1, p2, p3⟩ := px_setSheep l h
  have m : pz_sm [34, 35, 36] σ (sw_uI σ1 34 2 0) := (p2.mono (by decide)).I (by decide) _ _
  have hq := hc.1
  obtain ⟨x, σ2, q1, q2, q3, q4⟩ := px_qloop (s := s) hg hr hd ho (show Q.length ≤ 1608 by omega) Q sw_fuel 0 (sw_uI σ1 34 2 0) [] [] (by omega) (by omega) (hc.mv (m 5 (by decide)).1) (by rw [m.r (by decide)]; exact h4) (hl.mv m (by decide)) (h.mv m (by decide)) (fun v v1 v2 v3 v4 => by rw [pz_Io (by decide)]; exact p3 v v1 v2 v3 v4) trivial (by simp) hty trivial (pz_Ie rfl rfl)
  refine ⟨x, σ2, ?_, by rw [q2]; rfl, q3, m.trans q4⟩
  unfold F_X2_questionOf
  rw [p1]
  dsimp only [Option.bind_some]
  exact q1

/-! The class's reckoner: a step, a run of codes. -/
theorem pe_al_lt {kind v : Nat} (h : pe_al kind v = true) : v < 10 := by
  unfold pe_al at h
  split at h
  · have := of_decide_eq_true h; omega
  · split at h
    · have := of_decide_eq_true h; omega
    · split at h
      · simp at h; omega
      · simp at h; omega
theorem pe_ty_len {kind c : Nat} {T T' : List Nat} (hT : T.length ≤ 60) (h : pe_ty kind c T = some T') : T'.length ≤ 60 := by
  unfold pe_ty at h
  split at h
  · obtain ⟨q, h⟩ := sw_ifs h
    cases h
    simp; omega
  split at h
  · obtain ⟨q, h⟩ := sw_ifs h
    obtain ⟨T1, rfl, rfl⟩ := pe_p1_sp h
    simpa using hT
  split at h
  · obtain ⟨q, h⟩ := sw_ifs h
    cases h
    simp; omega
  split at h
  · obtain ⟨q, h⟩ := sw_ifs h
    cases h
    simp; omega
  split at h
  · obtain ⟨T1, rfl, rfl⟩ := pe_p1_sp h
    simpa using hT
  split at h
  · obtain ⟨T1, rfl, rfl⟩ := pe_p2_sp h
    simp at hT ⊢; omega
  split at h
  · obtain ⟨T1, rfl, rfl⟩ := pe_p2_sp h
    simp at hT ⊢; omega
  split at h
  · obtain ⟨T1, rfl, rfl⟩ := pe_p2_sp h
    simp at hT ⊢; omega
  cases h
theorem px_step {σ : sw_St} {kind c : Nat} {env : Nat → Int} {of : Nat → Int → Int} {T T' : List Nat} {S B : List Int} (hE : pe_env kind env of) (hk : c < 60 ∨ 1000 ≤ c) (hv : ∀ v, pe_al kind v = true → (σ.1 35 v).toInt = env v) (hS : pe_ok T S) (hT : T.length ≤ 60) (hty : pe_ty kind c T = some T') (hs : px_sk σ (S ++ B)) (ht : σ.1 34 2 = nI (S ++ B).length) (hB : B.length ≤ 100) :
    ∃ σ', F_X7_step σ (nI (px_xc c)) = some ((), σ') ∧ px_sk σ' (pe_st env of c S ++ B) ∧ σ'.1 34 2 = nI (pe_st env of c S ++ B).length ∧ pz_sm [34, 36] σ σ' := by
  have hlen := pe_ok_len hS
  have hl : (S ++ B).length < 250 := by simp; omega
  have lit : ∀ n : Nat, n < 10000 → ∃ σ', F_X7_step σ (nI n) = some ((), σ') ∧ px_sk σ' ((n : Int) :: S ++ B) ∧ σ'.1 34 2 = nI ((n : Int) :: S ++ B).length ∧ pz_sm [34, 36] σ σ' := fun n hn => by
    obtain ⟨σ', p1, p2, p3, p4⟩ := px_push (y := (nI n).toInt64) hs ht (by omega)
    rw [px_wide, nI_toInt (by omega), pe_clip_id (by omega) (by omega)] at p2
    refine ⟨σ', ?_, p2, p3, p4⟩
    unfold F_X7_step S_X7_step_31
    rw [if_neg (by rw [show (10010 : Int32) = nI 10010 from rfl, nI_leI (by omega) (by omega)]; omega), if_neg (by rw [show (10000 : Int32) = nI 10000 from rfl, nI_leI (by omega) (by omega)]; omega), p1]
    rfl
  unfold pe_ty at hty
  unfold pe_st px_xc
  by_cases h1 : 1000 ≤ c
  · rw [if_pos h1] at hty
    obtain ⟨⟨q, -⟩, -⟩ := sw_ifs hty
    rw [if_pos h1, if_pos h1]
    exact lit (c - 1000) (by omega)
  rw [if_neg h1] at hty
  rw [if_neg h1, if_neg h1]
  have h2 : ¬ 60 ≤ c := by omega
  rw [if_neg h2] at hty
  rw [if_neg h2, if_neg h2]
  by_cases h3 : 40 ≤ c
  · rw [if_pos h3] at hty
    obtain ⟨⟨q, -⟩, -⟩ := sw_ifs hty
    have q10 := pe_al_lt q
    have qE := hE.1 _ q
    rw [if_pos h3, if_pos h3]
    obtain ⟨σ', p1, p2, p3, p4⟩ := px_push (y := (σ.1 35 (c - 40)).toInt64) hs ht (by omega)
    rw [px_wide, hv _ q, pe_clip_id qE.1 qE.2] at p2
    refine ⟨σ', ?_, p2, p3, p4⟩
    unfold F_X7_step S_X7_step_31
    rw [if_neg (by rw [show (10010 : Int32) = nI 10010 from rfl, nI_leI (by omega) (by omega)]; omega), if_pos (by rw [show (10000 : Int32) = nI 10000 from rfl, nI_leI (by omega) (by omega)]; omega), show (10000 : Int32) = nI 10000 from rfl, pk_sub (by omega), show 10000 + (c - 40) - 10000 = c - 40 by omega, if_pos (pz_inb q10 (by omega)), nI_clamp (by omega), p1]
    rfl
  rw [if_neg h3] at hty
  rw [if_neg h3, if_neg h3]
  by_cases h4 : c = 13
  · rw [if_pos h4, if_pos h4]
    exact lit 1 (by omega)
  rw [if_neg h4] at hty
  rw [if_neg h4, if_neg h4]
  by_cases h5 : c = 12
  · rw [if_pos h5] at hty
    rw [if_pos h5]
    obtain ⟨T1, rfl, rfl⟩ := pe_p1_sp hty
    obtain ⟨v, S1, rfl, g1, g2⟩ := pe_ok_cons hS
    simp only [if_pos h5]
    obtain ⟨x, σ1, e1, f1, k1, t1, m1⟩ := px_pop (S := S1 ++ B) hs (by simpa using ht) (by simp at hl ⊢; omega)
    have hx := g1.2.2 rfl
    have h1x : (1 - x).toInt = 1 - v := by
      rw [fb_subI, e1]
      · rfl
      · rw [e1, show (1 : Int32).toInt = 1 from by decide]; omega
      · rw [e1, show (1 : Int32).toInt = 1 from by decide]; omega
    obtain ⟨σ2, p1, p2, p3, p4⟩ := px_push (y := (1 - x).toInt64) k1 t1 (by simp at hl ⊢; omega)
    rw [px_wide, h1x, pe_clip_id (by omega) (by omega)] at p2
    refine ⟨σ2, ?_, p2, by simpa using p3, m1.trans p4⟩
    show F_X7_step σ 10021 = _
    unfold F_X7_step
    rw [if_pos (by decide), f1]
    dsimp only [Option.bind]
    rw [if_pos (by decide), p1]
  rw [if_neg h5] at hty
  rw [if_neg h5]
  have two : ∀ t, (1 ≤ c ∧ c ≤ 11) → ((c ≤ 9 ∧ t = 0) ∨ (9 < c ∧ t = 1)) → ∀ T1, T = t :: t :: T1 → ∃ σ', F_X7_step σ (nI (px_xc c)) = some ((), σ') ∧ px_sk σ' (pe_st env of c S ++ B) ∧ σ'.1 34 2 = nI (pe_st env of c S ++ B).length ∧ pz_sm [34, 36] σ σ' := fun t g1 g2 T1 hT1 => by
    subst hT1
    obtain ⟨b, S0, rfl, q1, q2⟩ := pe_ok_cons hS
    obtain ⟨a, S1, rfl, q3, q4⟩ := pe_ok_cons q2
    obtain ⟨σ', p1, p2, p3, p4⟩ := px_join (R := S1 ++ B) (c := c) hs (by simpa using ht) (by simp at hl ⊢; omega) g1 q3 q1 g2
    have e : pe_st env of c (b :: a :: S1) = pe_jn c a b :: S1 := by
      unfold pe_st
      rw [if_neg h1, if_neg h2, if_neg h3, if_neg h4]
      simp only [if_neg h5]
    rw [e]
    exact ⟨σ', p1, p2, by simpa using p3, p4⟩
  have two' := two
  unfold pe_st px_xc at two'
  simp only [if_neg h1, if_neg h2, if_neg h3, if_neg h4, if_neg h5] at two' ⊢
  by_cases h6 : 1 ≤ c ∧ c ≤ 6
  · rw [if_pos h6] at hty
    obtain ⟨T1, hT1, -⟩ := pe_p2_sp hty
    exact two' 0 (by omega) (Or.inl ⟨by omega, rfl⟩) T1 hT1
  rw [if_neg h6] at hty
  by_cases h7 : 7 ≤ c ∧ c ≤ 9
  · rw [if_pos h7] at hty
    obtain ⟨T1, hT1, -⟩ := pe_p2_sp hty
    exact two' 0 (by omega) (Or.inl ⟨by omega, rfl⟩) T1 hT1
  rw [if_neg h7] at hty
  by_cases h8 : c = 10 ∨ c = 11
  · rw [if_pos h8] at hty
    obtain ⟨T1, hT1, -⟩ := pe_p2_sp hty
    exact two' 1 (by omega) (Or.inr ⟨by omega, rfl⟩) T1 hT1
  rw [if_neg h8] at hty
  cases hty
def px_cd (σ : sw_St) (o a : Nat) (P : List Nat) : Prop := a + P.length ≤ 1608 ∧ ∀ i, i < P.length → σ.1 o (a + i) = nI (px_xc (P.getD i 0))
theorem px_cd.tl {σ : sw_St} {o a c : Nat} {P : List Nat} (h : px_cd σ o a (c :: P)) : px_cd σ o (a + 1) P := by
  refine ⟨by have := h.1; simp at this; omega, fun i hi => ?_⟩
  have := h.2 (i + 1) (by simp; omega)
  rw [show a + 1 + i = a + (i + 1) by omega, this]
  simp
theorem px_cd.hd {σ : sw_St} {o a c : Nat} {P : List Nat} (h : px_cd σ o a (c :: P)) : σ.1 o a = nI (px_xc c) := by
  have := h.2 0 (by simp)
  simpa using this
theorem px_cd.mv {σ σ' : sw_St} {o a : Nat} {P : List Nat} (h : px_cd σ o a P) (he : σ'.1 o = σ.1 o) : px_cd σ' o a P := ⟨h.1, fun i hi => by rw [he]; exact h.2 i hi⟩
theorem px_loop {kind w which t : Nat} {env : Nat → Int} {of : Nat → Int → Int} {B : List Int} (hw : w = 6 ∨ w = 19) (hwh : which < 3) (hk : kind < 3) (hE : pe_env kind env of) (hB : B.length ≤ 100) : ∀ (P : List Nat) (fuel a : Nat) (σ : sw_St) (T : List Nat) (S : List Int), P.length < fuel → px_cd σ (w + 10) a P → σ.1 (w + 12) which = nI (a + P.length) → (∀ v, pe_al kind v = true → (σ.1 35 v).toInt = env v) → pe_ok T S → T.length ≤ 60 → pe_wt kind P T = some [t] → px_sk σ (S ++ B) → σ.1 34 2 = nI (S ++ B).length →
    ∃ x σ', L_X7_run_13 fuel σ w (nI which) (nI B.length) (nI a) = some (x, σ') ∧ pe_run env of P S = [x.toInt] ∧ px_sk σ' B ∧ σ'.1 34 2 = nI B.length ∧ pz_sm [34, 36] σ σ'
  | [], fuel + 1, a, σ, T, S, _, hc, he, hv, hS, hT, hty, hs, ht => by
    cases hty
    obtain ⟨v, S1, rfl, g1, g2⟩ := pe_ok_cons hS
    cases S1 with
    | cons _ _ => exact g2.elim
    | nil =>
      have ha := hc.1
      simp at ha
      have hl : B.length < 256 := by omega
      refine ⟨σ.1 36 B.length, sw_uI σ 34 2 (nI B.length), ?_, ?_, ?_, pz_Ie rfl rfl, (pz_sm.refl _ σ).I (by decide) _ _⟩
      · show S_X7_run_13 _ σ w (nI which) (nI B.length) (nI a) = _
        unfold S_X7_run_13 S_X7_run_67
        have e1 : σ.1 34 2 = nI (B.length + 1) := by simpa using ht
        rw [if_pos (ld_O hw), if_pos (ld_A12 hw), ld_n12 hw, if_pos (pz_inb hwh (by omega)), nI_clamp (by omega), he, if_pos (by rw [nI_leI (by simp; omega) (by omega)]; simp), e1, if_neg (by rw [nI_leI (by omega) (by omega)]; omega), nI_pred, if_pos (pz_inb hl (by omega)), nI_clamp (by omega)]
      · show [v] = _
        rw [show v = (σ.1 36 B.length).toInt from hs.1.symm]
      · exact px_sk_cong (fun k hk => by rw [pz_Io (by decide)]) hs.2
  | c :: P, fuel + 1, a, σ, T, S, hf, hc, he, hv, hS, hT, hty, hs, ht => by
    obtain ⟨T1, e1, e2⟩ := sw_bnd hty
    have hcc : c < 60 ∨ 1000 ≤ c := by
      unfold pe_ty at e1
      by_cases h1 : 1000 ≤ c
      · exact Or.inr h1
      rw [if_neg h1] at e1
      by_cases h2 : 60 ≤ c
      · rw [if_pos h2] at e1
        have := (sw_ifs e1).1; omega
      · exact Or.inl (by omega)
    obtain ⟨σ1, p1, p2, p3, p4⟩ := px_step hE hcc hv hS hT e1 hs ht hB
    have hne : ∀ j, w + j ∉ [34, 36] ∨ ¬ j ≤ 12 := fun j => by
      by_cases hj : j ≤ 12
      · left
        simp
        omega
      · exact Or.inr hj
    have g10 : σ1.1 (w + 10) = σ.1 (w + 10) := (p4 _ (by simp; omega)).1
    have g12 : σ1.1 (w + 12) = σ.1 (w + 12) := (p4 _ (by simp; omega)).1
    have g35 : σ1.1 35 = σ.1 35 := (p4 35 (by decide)).1
    have hal := hc.1
    simp at hal
    obtain ⟨x, σ2, q1, q2, q3, q4, q5⟩ := px_loop hw hwh hk hE hB P fuel (a + 1) σ1 T1 (pe_st env of c S) (by simp at hf; omega) (hc.tl.mv g10) (by rw [g12, he]; simp; congr 1; omega) (fun v hv' => by rw [g35]; exact hv v hv') (pe_st_ok hE hS e1) (pe_ty_len hT e1) e2 p2 p3
    refine ⟨x, σ2, ?_, q2, q3, q4, p4.trans q5⟩
    show S_X7_run_13 _ σ w (nI which) (nI B.length) (nI a) = _
    unfold S_X7_run_13
    rw [if_pos (ld_O hw), if_pos (ld_A12 hw), ld_n12 hw, if_pos (pz_inb hwh (by omega)), nI_clamp (by omega), he, if_neg (by rw [nI_leI (by simp; omega) (by omega)]; simp), if_pos (ld_O hw), if_pos (ld_C hw), if_pos (ld_A10' hw), ld_n10' hw, if_pos (pz_inb (by omega) (by omega)), nI_clamp (by omega), show σ.1 (w + 9 + 1) a = nI (px_xc c) from hc.hd, p1]
    dsimp only [Option.bind]
    rw [nI_1]
    exact q1
/-- a run of one of an upland's codes -/
theorem px_run {σ : sw_St} {kind w which t a : Nat} {env : Nat → Int} {of : Nat → Int → Int} {B : List Int} {P : List Nat} (hw : w = 6 ∨ w = 19) (hwh : which < 3) (hk : kind < 3) (hE : pe_env kind env of) (hB : B.length ≤ 100) (hc : px_cd σ (w + 10) a P) (ha : σ.1 (w + 11) which = nI a) (he : σ.1 (w + 12) which = nI (a + P.length)) (hv : ∀ v, pe_al kind v = true → (σ.1 35 v).toInt = env v) (hty : pe_wt kind P [] = some [t]) (hs : px_sk σ B) (ht : σ.1 34 2 = nI B.length) :
    ∃ x σ', F_X7_run σ w (nI which) = some (x, σ') ∧ pe_run env of P [] = [x.toInt] ∧ px_sk σ' B ∧ σ'.1 34 2 = nI B.length ∧ pz_sm [34, 36] σ σ' := by
  have hf := sw_fuel_ge
  have hal := hc.1
  obtain ⟨x, σ', q1, q2⟩ := px_loop hw hwh hk hE hB P sw_fuel a σ [] [] (by omega) hc he hv trivial (by simp) hty hs ht
  refine ⟨x, σ', ?_, q2⟩
  unfold F_X7_run
  rw [if_pos (ld_O hw), if_pos (ld_A11 hw), ld_n11 hw, if_pos (pz_inb hwh (by omega)), nI_clamp (by omega), ha, ht]
  exact q1

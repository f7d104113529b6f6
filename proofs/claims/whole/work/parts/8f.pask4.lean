/-! What a question asks of one sheep: the reference. -/
theorem pm_qstep {τ : sw_St} {c s a n : Nat} {env : Nat → Int} {of : Nat → Int → Int} {T T' : List Nat} {S : List Int} (c7 : sw_St → Int32 → Int32 → Option (Int64 × sw_St)) (hE : pe_env 3 env of) (h95 : τ.1 0 95 = nI n) (ha : a < n) (hn : n ≤ 1650) (h71 : τ.1 71 a = nI c) (hv : ∀ v, pe_al 3 v = true → ∃ y, F_X11_qPartOf τ (nI v) (nI s) = some (y, τ) ∧ y.toInt = env v) (hO : ∀ v y, v ≤ 1 → ∃ z, F_X11_qOf τ (nI v) y (nI s) = some (z, τ) ∧ z.toInt = of v y.toInt) (hS : pe_ok T S) (hT : T.length ≤ 60) (hty : pe_ty 3 c T = some T') (hs : pm_sk τ S) (ht : τ.1 0 101 = nI S.length) :
    ∃ τ', S_X11_qTold_7 c7 τ (nI s) (nI a) = c7 τ' (nI s) (nI (a + 1)) ∧ pm_sk τ' (pe_st env of c S) ∧ τ'.1 0 101 = nI (pe_st env of c S).length ∧ pm_sm [73] [101] τ τ' := by
  have hlen := pe_ok_len hS
  unfold S_X11_qTold_7 S_X11_qTold_162
  rw [h95, if_neg (nI_ge ha (by omega)), if_pos (pz_inb (show a < 1700 by omega) (by omega)), nI_clamp (by omega), h71, nI_1]
  have lt : ∀ n : Nat, c < 2 ^ 31 → n < 2 ^ 31 → (nI c < nI n ↔ c < n) := fun n h1 h2 => nI_ltI h1 h2
  have hty0 := hty
  unfold pe_ty at hty
  by_cases h1 : 1000 ≤ c
  · rw [if_pos h1] at hty
    obtain ⟨⟨q, -⟩, -⟩ := sw_ifs hty
    have e : nI c - 1000 = nI (c - 1000) := pm_sb h1
    rw [if_neg (by rw [show (1000 : Int32) = nI 1000 from rfl, lt _ (by omega) (by omega)]; omega), e]
    obtain ⟨τ', p1, p2, p3, p4⟩ := pm_puts (τ := τ) (nI (c - 1000)).toInt64 hs ht (by omega)
    rw [px_wide, nI_toInt (by omega)] at p2
    have es : pe_st env of c S = ((c - 1000 : Nat) : Int) :: S := by unfold pe_st; rw [if_pos h1]
    rw [es]
    exact ⟨τ', by rw [p1]; rfl, p2, by simpa using p3, p4⟩
  rw [if_neg h1] at hty
  rw [if_pos (by rw [show (1000 : Int32) = nI 1000 from rfl, lt _ (by omega) (by omega)]; omega)]
  by_cases h2 : 60 ≤ c
  · rw [if_pos h2] at hty
    obtain ⟨⟨-, h61⟩, hp⟩ := sw_ifs hty
    obtain ⟨T1, eT, -⟩ := pe_p1_sp hp
    rw [eT] at hS hT
    obtain ⟨v, S1, eS, g1, g2⟩ := pe_ok_cons hS
    have hl1 := pe_ok_len g2
    have es : pe_st env of c S = of (c - 60) v :: S1 := by
      unfold pe_st
      rw [if_neg h1, if_pos h2, eS]
    rw [eS] at hs ht
    have e : nI (v :: S1).length - 1 = nI S1.length := nI_pred _
    simp only [List.length_cons] at hT
    obtain ⟨z, k1, k2⟩ := hO (c - 60) (τ.2.1 73 S1.length) (by omega)
    obtain ⟨z2, k3, k4⟩ := pm_clip τ z
    have hb := hE.2 rfl (c - 60) v
    have hv0 : (τ.2.1 73 S1.length).toInt = v := hs.1
    rw [k2, hv0, pe_clip_id hb.1 hb.2] at k4
    rw [if_neg (by rw [show (60 : Int32) = nI 60 from rfl, lt _ (by omega) (by omega)]; omega), ht, e, if_pos (pz_inb (by omega) (by omega)), nI_clamp (by omega), show nI c - 60 = nI (c - 60) from pm_sb h2, k1]
    dsimp only [Option.bind_some]
    rw [k3]
    dsimp only [Option.bind_some]
    rw [if_pos (pz_inb (by omega) (by omega)), es]
    refine ⟨_, rfl, ⟨?_, ?_⟩, ?_, (pm_sm.refl _ _ τ).L (by decide) (by decide) _ _⟩
    · rw [pz_Le rfl rfl, k4]
    · exact pm_sk_cong (fun k hk => by rw [pz_Lk (by omega)]) hs.2
    · show τ.1 0 101 = _
      rw [ht]
      rfl
  rw [if_neg h2] at hty
  rw [if_pos (by rw [show (60 : Int32) = nI 60 from rfl, lt _ (by omega) (by omega)]; omega)]
  by_cases h3 : 40 ≤ c
  · rw [if_pos h3] at hty
    obtain ⟨⟨q, -⟩, -⟩ := sw_ifs hty
    have e : nI c - 40 = nI (c - 40) := pm_sb h3
    rw [if_neg (by rw [show (40 : Int32) = nI 40 from rfl, lt _ (by omega) (by omega)]; omega), e]
    obtain ⟨y, y1, y2⟩ := hv _ q
    obtain ⟨z, z1, z2⟩ := pm_clip τ y
    have hb := hE.1 _ q
    rw [y2, pe_clip_id hb.1 hb.2] at z2
    obtain ⟨τ', p1, p2, p3, p4⟩ := pm_puts (τ := τ) z hs ht (by omega)
    rw [z2] at p2
    have es : pe_st env of c S = env (c - 40) :: S := by unfold pe_st; rw [if_neg h1, if_neg h2, if_pos h3]
    rw [es]
    exact ⟨τ', by rw [y1]; dsimp only [Option.bind]; rw [z1]; dsimp only; rw [p1], p2, by simpa using p3, p4⟩
  rw [if_neg h3] at hty
  rw [if_pos (by rw [show (40 : Int32) = nI 40 from rfl, lt _ (by omega) (by omega)]; omega)]
  have eq : ∀ n : Nat, n < 2 ^ 31 → (nI c = nI n ↔ c = n) := fun n h2 => nI_eq (by omega) h2
  by_cases h4 : c = 13
  · rw [if_pos (by rw [h4]; rfl)]
    obtain ⟨τ', p1, p2, p3, p4⟩ := pm_puts (τ := τ) 1 hs ht (by omega)
    have es : pe_st env of c S = 1 :: S := by rw [h4]; unfold pe_st; simp
    rw [es]
    exact ⟨τ', by rw [p1]; rfl, p2, by simpa using p3, p4⟩
  rw [if_neg h4] at hty
  rw [if_neg (by rw [show (13 : Int32) = nI 13 from rfl, eq _ (by omega)]; exact h4)]
  by_cases h5 : c = 12
  · rw [if_pos h5] at hty
    rw [if_pos (by rw [h5]; rfl)]
    obtain ⟨T1, eT, -⟩ := pe_p1_sp hty
    rw [eT] at hS hT
    obtain ⟨v, S1, eS, g1, g2⟩ := pe_ok_cons hS
    have hl1 := pe_ok_len g2
    have hx := g1.2.2 rfl
    have es : pe_st env of c S = (1 - v) :: S1 := by rw [h5, eS]; unfold pe_st; simp
    rw [eS] at hs ht
    have e : nI (v :: S1).length - 1 = nI S1.length := nI_pred _
    have h1x : (1 - τ.2.1 73 S1.length).toInt = 1 - v := by
      have l1 : (1 : Int64).toInt = 1 := by decide
      have := hs.1
      rw [fb_subL (by omega) (by omega), l1, this]
    simp only [List.length_cons] at hT
    rw [ht, e, if_pos (pz_inb (by omega) (by omega)), if_pos (pz_inb (by omega) (by omega)), nI_clamp (by omega), es]
    refine ⟨_, rfl, ⟨?_, ?_⟩, ?_, (pm_sm.refl _ _ τ).L (by decide) (by decide) _ _⟩
    · rw [pz_Le rfl rfl, h1x]
    · exact pm_sk_cong (fun k hk => by rw [pz_Lk (by omega)]) hs.2
    · show τ.1 0 101 = _
      rw [ht]
      rfl
  rw [if_neg h5] at hty
  rw [if_neg (by rw [show (12 : Int32) = nI 12 from rfl, eq _ (by omega)]; exact h5)]
  have two : ∀ t, (1 ≤ c ∧ c ≤ 11) → ((c ≤ 9 ∧ t = 0) ∨ (9 < c ∧ t = 1)) → ∀ T1, T = t :: t :: T1 → ∃ τ', ((F_X11_qJoins τ (nI c)).bind fun q3 => c7 q3.2 (nI s) (nI (a + 1))) = c7 τ' (nI s) (nI (a + 1)) ∧ pm_sk τ' (pe_st env of c S) ∧ τ'.1 0 101 = nI (pe_st env of c S).length ∧ pm_sm [73] [101] τ τ' := fun t k1 k2 T1 hT1 => by
    rw [hT1] at hS hT
    obtain ⟨b, S0, eS0, q1, q2⟩ := pe_ok_cons hS
    obtain ⟨a1, S1, eS1, q3, q4⟩ := pe_ok_cons q2
    have hl1 := pe_ok_len q4
    rw [eS1] at eS0
    simp only [List.length_cons] at hT
    have e : pe_st env of c S = pe_jn c a1 b :: S1 := by
      rw [eS0]
      unfold pe_st
      rw [if_neg h1, if_neg h2, if_neg h3, if_neg h4]
      simp only [if_neg h5]
    rw [eS0] at hs ht
    obtain ⟨τ', p1, p2, p3, p4⟩ := pm_join (R := S1) (c := c) hs (by simpa using ht) (by omega) k1 q3 q1 k2
    rw [e]
    exact ⟨τ', by rw [p1]; rfl, p2, by simpa using p3, p4⟩
  by_cases h6 : 1 ≤ c ∧ c ≤ 6
  · rw [if_pos h6] at hty
    obtain ⟨T1, hT1, -⟩ := pe_p2_sp hty
    exact two 0 (by omega) (Or.inl ⟨by omega, rfl⟩) T1 hT1
  rw [if_neg h6] at hty
  by_cases h7 : 7 ≤ c ∧ c ≤ 9
  · rw [if_pos h7] at hty
    obtain ⟨T1, hT1, -⟩ := pe_p2_sp hty
    exact two 0 (by omega) (Or.inl ⟨by omega, rfl⟩) T1 hT1
  rw [if_neg h7] at hty
  by_cases h8 : c = 10 ∨ c = 11
  · rw [if_pos h8] at hty
    obtain ⟨T1, hT1, -⟩ := pe_p2_sp hty
    exact two 1 (by omega) (Or.inr ⟨by omega, rfl⟩) T1 hT1
  rw [if_neg h8] at hty
  cases hty
theorem pm_qloop {s t n : Nat} {env : Nat → Int} {of : Nat → Int → Int} (hE : pe_env 3 env of) (hn : n ≤ 1650) : ∀ (Q : List Nat) (fuel a : Nat) (τ : sw_St) (T : List Nat) (S : List Int), Q.length < fuel → a + Q.length = n → pm_cd τ 71 a Q → τ.1 0 95 = nI n → (∀ τ', pm_sm [73] [101] τ τ' → (∀ v, pe_al 3 v = true → ∃ y, F_X11_qPartOf τ' (nI v) (nI s) = some (y, τ') ∧ y.toInt = env v) ∧ ∀ v y, v ≤ 1 → ∃ z, F_X11_qOf τ' (nI v) y (nI s) = some (z, τ') ∧ z.toInt = of v y.toInt) → pe_ok T S → T.length ≤ 60 → pe_wt 3 Q T = some [t] → pm_sk τ S → τ.1 0 101 = nI S.length →
    ∃ y τ', L_X11_qTold_7 fuel τ (nI s) (nI a) = some (y, τ') ∧ pe_run env of Q S = [y.toInt] ∧ pm_sm [73] [101] τ τ'
  | [], fuel + 1, a, τ, T, S, _, ha, hc, h95, hv, hS, hT, hty, hs, ht => by
    have eT : T = [t] := Option.some.inj hty
    rw [eT] at hS
    obtain ⟨v, S1, eS, g1, g2⟩ := pe_ok_cons hS
    cases S1 with
    | cons _ _ => exact g2.elim
    | nil =>
      rw [eS] at hs
      refine ⟨τ.2.1 73 0, τ, ?_, ?_, pm_sm.refl _ _ _⟩
      · show S_X11_qTold_7 _ τ (nI s) (nI a) = _
        unfold S_X11_qTold_7
        have ha : a = n := by simpa using ha
        rw [h95, if_pos (nI_le (by omega) (by omega))]
      · show S = _
        rw [eS, show v = (τ.2.1 73 0).toInt from hs.1.symm]
  | c :: Q, fuel + 1, a, τ, T, S, hf, ha, hc, h95, hv, hS, hT, hty, hs, ht => by
    obtain ⟨T1, e1, e2⟩ := sw_bnd hty
    simp only [List.length_cons] at ha hf
    obtain ⟨k1, k2⟩ := hv τ (pm_sm.refl _ _ _)
    obtain ⟨τ1, p1, p2, p3, p4⟩ := pm_qstep (s := s) (fun σ x1 x2 => L_X11_qTold_7 fuel σ x1 x2) hE h95 (show a < n by omega) hn hc.hd k1 k2 hS hT e1 hs ht
    obtain ⟨y, τ2, q1, q2, q3⟩ := pm_qloop hE hn Q fuel (a + 1) τ1 T1 _ (by omega) (by omega) (hc.tl.mv (p4.1 71 (by decide) (by decide)).1) (by rw [p4.2.1 95 (by decide)]; exact h95) (fun τ' hm => hv τ' (p4.trans hm)) (pe_st_ok hE hS e1) (pe_ty_len hT e1) e2 p2 p3
    refine ⟨y, τ2, ?_, q2, p4.trans q3⟩
    show S_X11_qTold_7 _ τ (nI s) (nI a) = _
    rw [p1]
    exact q1

/-! The reference: one sheep as rows show it, parts, a run of codes. -/
/-- what the parts of a text tell of a sheep -/
def g_en (l : Nat → Nat → Nat) (day cur : Nat) (row : Nat → Nat) (s fld mi v : Nat) : Nat :=
  if v = 0 then cur else if v = 1 then row 1 else if v = 2 then day else if v = 3 then l 1 fld else if v = 4 then row (4 + fld)
  else if v = 5 then mi else if v = 6 then row 2 else if v = 7 then row 3 else if v = 8 then s else row 0
def g_env (l : Nat → Nat → Nat) (day cur : Nat) (row : Nat → Nat) (s fld mi v : Nat) : Int := (g_en l day cur row s fld mi v : Int)
/-- a sheep's numbers are small -/
def g_rk (cur : Nat) (row : Nat → Nat) : Prop := cur ≤ 9 ∧ row 0 < 8 ∧ row 1 ≤ 999 ∧ row 2 < 64 ∧ row 3 ≤ 1 ∧ ∀ f, f < 8 → row (4 + f) ≤ 99
/-- the reference shows a sheep -/
def pm_vw (τ : sw_St) (l : Nat → Nat → Nat) (day cur : Nat) (row : Nat → Nat) (s : Nat) : Prop :=
  s < 6 ∧ τ.1 37 0 = nI day ∧ (∀ j, j < 12 → τ.1 37 (12 + 12 * s + j) = nI (row j)) ∧ (if nI s = τ.1 0 52 then τ.1 0 53 else τ.1 33 (13 + 2 * s)) = nI cur ∧ (∀ f, f < l 0 0 → τ.1 30 (8 + f) = nI (l 1 f))
theorem pm_vw.mv {τ τ' : sw_St} {l : Nat → Nat → Nat} {day cur s : Nat} {row : Nat → Nat} {S K : List Nat} (h : pm_vw τ l day cur row s) (m : pm_sm S K τ τ') (h1 : 37 ∉ S ∧ 33 ∉ S ∧ 30 ∉ S) (h2 : 52 ∉ K ∧ 53 ∉ K) : pm_vw τ' l day cur row s := by
  obtain ⟨a, b, c, d, e⟩ := h
  refine ⟨a, by rw [m.r (by decide) h1.1]; exact b, fun j hj => by rw [m.r (by decide) h1.1]; exact c j hj, ?_, fun f hf => by rw [m.r (by decide) h1.2.2]; exact e f hf⟩
  rw [m.2.1 52 h2.1, m.2.1 53 h2.2, m.r (by decide) h1.2.1]
  exact d
theorem pm_fieldOf {τ : sw_St} {s : Nat} (hs : s < 6) : F_X11_fieldOf τ (nI s) = some (τ.1 37 (12 + 12 * s), τ) := by
  unfold F_X11_fieldOf
  rw [pm_ix, if_pos (pz_inb (by omega) (by omega)), nI_clamp (by omega)]
theorem pm_woolOf {τ : sw_St} {s : Nat} (hs : s < 6) : F_X11_woolOf τ (nI s) = some (τ.1 37 (13 + 12 * s), τ) := by
  unfold F_X11_woolOf
  rw [pm_ix, if_pos (pz_inb (by omega) (by omega)), nI_clamp (by omega)]
theorem pm_crimpOf {τ : sw_St} {s : Nat} (hs : s < 6) : F_X11_crimpOf τ (nI s) = some (τ.1 37 (14 + 12 * s), τ) := by
  unfold F_X11_crimpOf
  rw [pm_ix, if_pos (pz_inb (by omega) (by omega)), nI_clamp (by omega)]
theorem pm_ledOf {τ : sw_St} {s : Nat} (hs : s < 6) : F_X11_ledOf τ (nI s) = some (τ.1 37 (15 + 12 * s), τ) := by
  unfold F_X11_ledOf
  rw [pm_ix, if_pos (pz_inb (by omega) (by omega)), nI_clamp (by omega)]
theorem pm_seenOf {τ : sw_St} {s f : Nat} (hs : s < 6) (hf : f < 8) : F_X11_seenOf τ (nI s) (nI f) = some (τ.1 37 (16 + 12 * s + f), τ) := by
  unfold F_X11_seenOf
  rw [pm_ix, nI_add, if_pos (pz_inb (by omega) (by omega)), nI_clamp (by omega)]
theorem pm_milesOf {τ : sw_St} {k : Nat} (hk : k < 10) : F_X11_milesOf τ (nI k) = some (τ.1 31 (32 + 3 * k), τ) := by
  unfold F_X11_milesOf
  rw [pm_ix, if_pos (pz_inb (by omega) (by omega)), nI_clamp (by omega)]
theorem pm_curiousOf {τ : sw_St} {s : Nat} (hs : s < 6) : F_X11_curiousOf τ (nI s) = some (if nI s = τ.1 0 52 then τ.1 0 53 else τ.1 33 (13 + 2 * s), τ) := by
  unfold F_X11_curiousOf S_X11_curiousOf_26
  rw [pm_ix]
  split
  · rfl
  · rw [if_pos (pz_inb (by omega) (by omega)), nI_clamp (by omega)]
theorem pm_part {τ : sw_St} {l : Nat → Nat → Nat} {day cur s fld mi kind v : Nat} {row : Nat → Nat} (x : Int32) (h : pm_vw τ l day cur row s) (hr : g_rk cur row) (hd : day ≤ 100000) (hl : kind ≤ 1 → l 1 fld ≤ 9) (hmi : mi ≤ 9) (h54 : τ.1 0 54 = nI s) (h55 : kind ≤ 1 → τ.1 0 55 = nI fld ∧ fld < l 0 0) (hl0 : l 0 0 ≤ 8) (h56 : kind = 0 → τ.1 0 56 = nI mi) (hv : pe_al kind v = true) :
    ∃ y, F_X11_qPartOf τ (nI v) x = some (y, τ) ∧ y.toInt = g_env l day cur row s fld mi v := by
  obtain ⟨hs, v0, v1, v2, v3⟩ := h
  obtain ⟨r1, r2, r3, r4, r5, r6⟩ := hr
  have w : ∀ n : Nat, n < 2 ^ 31 → (nI n).toInt64.toInt = (n : Int) := fun n hn => by rw [px_wide, nI_toInt hn]
  have h10 := pe_al_lt hv
  have c34 : v = 3 ∨ v = 4 → kind ≤ 1 := fun z => by
    unfold pe_al at hv
    split at hv
    · omega
    · split at hv
      · omega
      · split at hv
        · simp at hv; omega
        · simp at hv; omega
  have c5 : v = 5 → kind = 0 := fun z => by
    unfold pe_al at hv
    split at hv
    · omega
    · split at hv
      · have := of_decide_eq_true hv; omega
      · split at hv
        · simp at hv; omega
        · simp at hv; omega
  unfold F_X11_qPartOf
  have k1 : v = 0 ∨ v = 1 ∨ v = 2 ∨ v = 3 ∨ v = 4 ∨ v = 5 ∨ v = 6 ∨ v = 7 ∨ v = 8 ∨ v = 9 := by omega
  rcases k1 with rfl | rfl | rfl | rfl | rfl | rfl | rfl | rfl | rfl | rfl
  · rw [if_pos (by decide), h54, pm_curiousOf hs, v2]
    exact ⟨_, rfl, w _ (by omega)⟩
  · rw [if_neg (by decide), if_pos (by decide), h54, pm_woolOf hs, show 13 + 12 * s = 12 + 12 * s + 1 by omega, v1 1 (by omega)]
    exact ⟨_, rfl, w _ (by omega)⟩
  · rw [if_neg (by decide), if_neg (by decide), if_pos (by decide), v0]
    exact ⟨_, rfl, w _ (by omega)⟩
  · obtain ⟨g1, g2⟩ := h55 (c34 (Or.inl rfl))
    have hl9 := hl (c34 (Or.inl rfl))
    rw [if_neg (by decide), if_neg (by decide), if_neg (by decide), if_pos (by decide), g1, pm_ad, if_pos (pz_inb (by omega) (by omega)), nI_clamp (by omega), v3 fld g2]
    exact ⟨_, rfl, w _ (by omega)⟩
  · obtain ⟨g1, g2⟩ := h55 (c34 (Or.inr rfl))
    have := r6 fld (by omega)
    rw [if_neg (by decide), if_neg (by decide), if_neg (by decide), if_neg (by decide), if_pos (by decide), h54, g1, pm_seenOf hs (show fld < 8 by omega), show 16 + 12 * s + fld = 12 + 12 * s + (4 + fld) by omega, v1 (4 + fld) (by omega)]
    exact ⟨_, rfl, w _ (by omega)⟩
  · rw [if_neg (by decide), if_neg (by decide), if_neg (by decide), if_neg (by decide), if_neg (by decide), if_pos (by decide), h56 (c5 rfl)]
    exact ⟨_, rfl, w _ (by omega)⟩
  · rw [if_neg (by decide), if_neg (by decide), if_neg (by decide), if_neg (by decide), if_neg (by decide), if_neg (by decide), if_pos (by decide), h54, pm_crimpOf hs, show 14 + 12 * s = 12 + 12 * s + 2 by omega, v1 2 (by omega)]
    exact ⟨_, rfl, w _ (by omega)⟩
  · rw [if_neg (by decide), if_neg (by decide), if_neg (by decide), if_neg (by decide), if_neg (by decide), if_neg (by decide), if_neg (by decide), if_pos (by decide), h54, pm_ledOf hs, show 15 + 12 * s = 12 + 12 * s + 3 by omega, v1 3 (by omega)]
    exact ⟨_, rfl, w _ (by omega)⟩
  · rw [if_neg (by decide), if_neg (by decide), if_neg (by decide), if_neg (by decide), if_neg (by decide), if_neg (by decide), if_neg (by decide), if_neg (by decide), if_pos (by decide), h54]
    exact ⟨_, rfl, w _ (by omega)⟩
  · rw [if_neg (by decide), if_neg (by decide), if_neg (by decide), if_neg (by decide), if_neg (by decide), if_neg (by decide), if_neg (by decide), if_neg (by decide), if_neg (by decide), h54, pm_fieldOf hs, show 12 + 12 * s = 12 + 12 * s + 0 by omega, v1 0 (by omega)]
    exact ⟨_, rfl, w _ (by omega)⟩
def pm_cd (τ : sw_St) (o a : Nat) (P : List Nat) : Prop := ∀ i, i < P.length → τ.1 o (a + i) = nI (P.getD i 0)
theorem pm_cd.tl {σ : sw_St} {o a c : Nat} {P : List Nat} (h : pm_cd σ o a (c :: P)) : pm_cd σ o (a + 1) P := by
  intro i hi
  have := h (i + 1) (by simp; omega)
  rw [show a + 1 + i = a + (i + 1) by omega, this]
  simp
theorem pm_cd.hd {σ : sw_St} {o a c : Nat} {P : List Nat} (h : pm_cd σ o a (c :: P)) : σ.1 o a = nI c := by
  have := h 0 (by simp)
  simpa using this
theorem pm_cd.mv {σ σ' : sw_St} {o a : Nat} {P : List Nat} (h : pm_cd σ o a P) (he : σ'.1 o = σ.1 o) : pm_cd σ' o a P := fun i hi => by rw [he]; exact h i hi
/-- one code of a sum, of a truth (no code that a question alone has) -/
theorem pm_step {τ : sw_St} {kind c : Nat} {env : Nat → Int} {of : Nat → Int → Int} {T T' : List Nat} {S : List Int} (x1 x2 x3 : Int32) (c24 : sw_St → Int32 → Int32 → Int32 → Option (Int64 × sw_St)) (hE : pe_env kind env of) (hk : kind < 3) (hx1 : sw_inb (3 + x1) 6 = true) (hx3 : ¬ τ.1 35 ((3 + x1).toNatClampNeg) ≤ x3) (hx4 : sw_inb (1600 + x3) 3200 = true) (hx5 : τ.1 36 ((1600 + x3).toNatClampNeg) = nI c) (hv : ∀ v, pe_al kind v = true → ∃ y, F_X11_qPartOf τ (nI v) x2 = some (y, τ) ∧ y.toInt = env v) (hS : pe_ok T S) (hT : T.length ≤ 60) (hty : pe_ty kind c T = some T') (hs : pm_sk τ S) (ht : τ.1 0 101 = nI S.length) :
    ∃ τ', S_X11_codesTell_24 c24 τ x1 x2 x3 = c24 τ' x1 x2 (x3 + 1) ∧ pm_sk τ' (pe_st env of c S) ∧ τ'.1 0 101 = nI (pe_st env of c S).length ∧ pm_sm [73] [101] τ τ' := by
  have hlen := pe_ok_len hS
  unfold S_X11_codesTell_24 S_X11_codesTell_149
  rw [if_pos hx1, if_neg hx3, if_pos hx4, hx5]
  have lt : ∀ n : Nat, c < 2 ^ 31 → n < 2 ^ 31 → (nI c < nI n ↔ c < n) := fun n h1 h2 => nI_ltI h1 h2
  unfold pe_ty at hty
  by_cases h1 : 1000 ≤ c
  · rw [if_pos h1] at hty
    obtain ⟨⟨q, -⟩, -⟩ := sw_ifs hty
    have e : nI c - 1000 = nI (c - 1000) := pm_sb h1
    rw [if_neg (by rw [show (1000 : Int32) = nI 1000 from rfl, lt _ (by omega) (by omega)]; omega), e]
    obtain ⟨τ', p1, p2, p3, p4⟩ := pm_puts (τ := τ) (nI (c - 1000)).toInt64 hs ht (by omega)
    rw [px_wide, nI_toInt (by omega)] at p2
    have es : pe_st env of c S = ((c - 1000 : Nat) : Int) :: S := by unfold pe_st; rw [if_pos h1]
    rw [es]
    exact ⟨τ', by rw [p1]; rfl, p2, by simpa using p3, p4⟩
  rw [if_neg h1] at hty
  rw [if_pos (by rw [show (1000 : Int32) = nI 1000 from rfl, lt _ (by omega) (by omega)]; omega)]
  by_cases h2 : 60 ≤ c
  · rw [if_pos h2] at hty
    have := (sw_ifs hty).1; omega
  rw [if_neg h2] at hty
  by_cases h3 : 40 ≤ c
  · rw [if_pos h3] at hty
    obtain ⟨⟨q, -⟩, -⟩ := sw_ifs hty
    have e : nI c - 40 = nI (c - 40) := pm_sb h3
    rw [if_neg (by rw [show (40 : Int32) = nI 40 from rfl, lt _ (by omega) (by omega)]; omega), e]
    obtain ⟨y, y1, y2⟩ := hv _ q
    obtain ⟨τ', p1, p2, p3, p4⟩ := pm_puts (τ := τ) y hs ht (by omega)
    rw [y2] at p2
    have es : pe_st env of c S = env (c - 40) :: S := by unfold pe_st; rw [if_neg h1, if_neg h2, if_pos h3]
    rw [es]
    exact ⟨τ', by rw [y1]; dsimp only [Option.bind]; rw [p1], p2, by simpa using p3, p4⟩
  rw [if_neg h3] at hty
  rw [if_pos (by rw [show (40 : Int32) = nI 40 from rfl, lt _ (by omega) (by omega)]; omega)]
  have eq : ∀ n : Nat, n < 2 ^ 31 → (nI c = nI n ↔ c = n) := fun n h2 => nI_eq (by omega) h2
  by_cases h4 : c = 13
  · subst h4
    rw [if_pos (by decide)]
    obtain ⟨τ', p1, p2, p3, p4⟩ := pm_puts (τ := τ) 1 hs ht (by omega)
    have es : pe_st env of 13 S = 1 :: S := by unfold pe_st; simp
    rw [es]
    exact ⟨τ', by rw [p1]; rfl, p2, by simpa using p3, p4⟩
  rw [if_neg h4] at hty
  rw [if_neg (by rw [show (13 : Int32) = nI 13 from rfl, eq _ (by omega)]; exact h4)]
  by_cases h5 : c = 12
  · subst h5
    rw [if_pos rfl] at hty
    rw [if_pos (by decide)]
    obtain ⟨T1, rfl, rfl⟩ := pe_p1_sp hty
    obtain ⟨v, S1, rfl, g1, g2⟩ := pe_ok_cons hS
    have hx := g1.2.2 rfl
    have e : nI (v :: S1).length - 1 = nI S1.length := nI_pred _
    have h1x : (1 - τ.2.1 73 S1.length).toInt = 1 - v := by
      have l1 : (1 : Int64).toInt = 1 := by decide
      have := hs.1
      rw [fb_subL (by omega) (by omega), l1, this]
    simp at hlen hT
    rw [ht, e, if_pos (pz_inb (by omega) (by omega)), if_pos (pz_inb (by omega) (by omega)), nI_clamp (by omega)]
    have es : pe_st env of 12 (v :: S1) = (1 - v) :: S1 := by unfold pe_st; simp
    rw [es]
    refine ⟨_, rfl, ⟨?_, ?_⟩, ?_, (pm_sm.refl _ _ τ).L (by decide) (by decide) _ _⟩
    · rw [pz_Le rfl rfl, h1x]
    · exact pm_sk_cong (fun k hk => by rw [pz_Lk (by omega)]) hs.2
    · show τ.1 0 101 = _
      rw [ht]
      rfl
  rw [if_neg h5] at hty
  rw [if_neg (by rw [show (12 : Int32) = nI 12 from rfl, eq _ (by omega)]; exact h5)]
  have two : ∀ t, (1 ≤ c ∧ c ≤ 11) → ((c ≤ 9 ∧ t = 0) ∨ (9 < c ∧ t = 1)) → ∀ T1, T = t :: t :: T1 → ∃ τ', ((F_X11_qJoins τ (nI c)).bind fun q3 => c24 q3.2 x1 x2 (x3 + 1)) = c24 τ' x1 x2 (x3 + 1) ∧ pm_sk τ' (pe_st env of c S) ∧ τ'.1 0 101 = nI (pe_st env of c S).length ∧ pm_sm [73] [101] τ τ' := fun t g1 g2 T1 hT1 => by
    subst hT1
    obtain ⟨b, S0, rfl, q1, q2⟩ := pe_ok_cons hS
    obtain ⟨a, S1, rfl, q3, q4⟩ := pe_ok_cons q2
    simp at hlen hT
    obtain ⟨τ', p1, p2, p3, p4⟩ := pm_join (R := S1) (c := c) hs (by simpa using ht) (by omega) g1 q3 q1 g2
    have e : pe_st env of c (b :: a :: S1) = pe_jn c a b :: S1 := by
      unfold pe_st
      rw [if_neg h1, if_neg h2, if_neg h3, if_neg h4]
      simp only [if_neg h5]
    rw [e]
    exact ⟨τ', by rw [p1]; rfl, p2, by simpa using p3, p4⟩
  by_cases h6 : 1 ≤ c ∧ c ≤ 6
  · rw [if_pos h6] at hty
    obtain ⟨T1, hT1, -⟩ := pe_p2_sp hty
    exact two 0 (by omega) (Or.inl ⟨by omega, rfl⟩) T1 hT1
  rw [if_neg h6] at hty
  by_cases h7 : 7 ≤ c ∧ c ≤ 9
  · rw [if_pos h7] at hty
    obtain ⟨T1, hT1, -⟩ := pe_p2_sp hty
    exact two 0 (by omega) (Or.inl ⟨by omega, rfl⟩) T1 hT1
  rw [if_neg h7] at hty
  by_cases h8 : c = 10 ∨ c = 11
  · rw [if_pos h8] at hty
    obtain ⟨T1, hT1, -⟩ := pe_p2_sp hty
    exact two 1 (by omega) (Or.inr ⟨by omega, rfl⟩) T1 hT1
  rw [if_neg h8] at hty
  cases hty
theorem pm_loop {kind which t s : Nat} {env : Nat → Int} {of : Nat → Int → Int} (hwh : which < 3) (hk : kind < 3) (hE : pe_env kind env of) : ∀ (P : List Nat) (fuel a : Nat) (τ : sw_St) (T : List Nat) (S : List Int), P.length < fuel → a + P.length ≤ 1600 → pm_cd τ 36 (1600 + a) P → τ.1 35 (3 + which) = nI (a + P.length) → (∀ τ', pm_sm [73] [101] τ τ' → ∀ v, pe_al kind v = true → ∃ y, F_X11_qPartOf τ' (nI v) (nI s) = some (y, τ') ∧ y.toInt = env v) → pe_ok T S → T.length ≤ 60 → pe_wt kind P T = some [t] → pm_sk τ S → τ.1 0 101 = nI S.length →
    ∃ y τ', L_X11_codesTell_24 fuel τ (nI which) (nI s) (nI a) = some (y, τ') ∧ pe_run env of P S = [y.toInt] ∧ pm_sm [73] [101] τ τ'
  | [], fuel + 1, a, τ, T, S, _, ha, hc, he, hv, hS, hT, hty, hs, ht => by
    cases hty
    simp at ha
    obtain ⟨v, S1, rfl, g1, g2⟩ := pe_ok_cons hS
    cases S1 with
    | cons _ _ => exact g2.elim
    | nil =>
      refine ⟨τ.2.1 73 0, τ, ?_, ?_, pm_sm.refl _ _ _⟩
      · show S_X11_codesTell_24 _ τ (nI which) (nI s) (nI a) = _
        unfold S_X11_codesTell_24
        rw [pm_ad, if_pos (pz_inb (by omega) (by omega)), nI_clamp (by omega), he, if_pos (by rw [nI_leI (by simp; omega) (by omega)]; simp)]
      · show [v] = _
        rw [show v = (τ.2.1 73 0).toInt from hs.1.symm]
  | c :: P, fuel + 1, a, τ, T, S, hf, ha, hc, he, hv, hS, hT, hty, hs, ht => by
    obtain ⟨T1, e1, e2⟩ := sw_bnd hty
    simp at ha
    have ec : τ.1 36 (1600 + a) = nI c := hc.hd
    obtain ⟨τ1, p1, p2, p3, p4⟩ := pm_step (τ := τ) (nI which) (nI s) (nI a) (fun σ x1 x2 x3 => L_X11_codesTell_24 fuel σ x1 x2 x3) hE hk (by rw [pm_ad]; exact pz_inb (by omega) (by omega)) (by rw [pm_ad, nI_clamp (by omega), he, nI_leI (by simp; omega) (by omega)]; simp) (by rw [pm_ad]; exact pz_inb (by omega) (by omega)) (by rw [pm_ad, nI_clamp (by omega)]; exact ec) (hv τ (pm_sm.refl _ _ _)) hS hT e1 hs ht
    have g36 : τ1.1 36 = τ.1 36 := (p4.1 36 (by decide) (by decide)).1
    have g35 : τ1.1 35 = τ.1 35 := (p4.1 35 (by decide) (by decide)).1
    obtain ⟨y, τ2, q1, q2, q3⟩ := pm_loop hwh hk hE P fuel (a + 1) τ1 T1 (pe_st env of c S) (by simp at hf; omega) (by omega) (by have := hc.tl.mv g36; rwa [show 1600 + a + 1 = 1600 + (a + 1) by omega] at this) (by rw [g35, he]; simp; congr 1; omega) (fun τ' hm v hv' => hv τ' (p4.trans hm) v hv') (pe_st_ok hE hS e1) (pe_ty_len hT e1) e2 p2 p3
    refine ⟨y, τ2, ?_, q2, p4.trans q3⟩
    show S_X11_codesTell_24 _ τ (nI which) (nI s) (nI a) = _
    rw [p1, nI_1]
    exact q1

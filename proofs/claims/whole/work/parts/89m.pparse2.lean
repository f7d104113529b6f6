/-! Sums and tests: the class. -/
theorem px_opens {σ : sw_St} {t : Nat → Nat} {N b d : Nat} (h : px_rs σ t N b) (ht : ∀ i, t i < 256) (hN : N ≤ 1600) (hb : b ≤ N) (hd : d < 6) : ∃ σ', F_X3_opens σ (nI d) = some (1, σ') ∧ px_rs σ' t N (tk_e t N b) ∧ px_af σ σ' := by
  obtain ⟨σ', p1, p2, p3⟩ := px_adv h.1 ht hN (tk_e_sp t hb).2.1 h.2.2.2
  refine ⟨σ', ?_, p2, p3⟩
  unfold F_X3_opens
  rw [if_pos (show nI d < (6 : Int32) from nI_lt (b := 6) hd (by omega)), p1]
  rfl
theorem px_opensN {σ : sw_St} {t : Nat → Nat} {N b d : Nat} (h : px_rs σ t N b) (hd : 6 ≤ d) (hd2 : d ≤ 100) : ∃ σ', F_X3_opens σ (nI d) = some (0, σ') ∧ px_ff σ σ' 4 (tk_s t N b) := by
  obtain ⟨σ', p1, p2⟩ := px_fail (σ := σ) (kd := 4) (pl := tk_s t N b)
  refine ⟨σ', ?_, p2⟩
  unfold F_X3_opens
  rw [if_neg (show ¬ nI d < (6 : Int32) from nI_nlt (b := 6) hd (by omega)), h.2.2.1, show F_X6_fail σ 4 (nI (tk_s t N b)) = _ from p1]
  dsimp only [Option.bind_some]
  rw [if_pos (Or.inl rfl)]
theorem px_kne {σ : sw_St} {t : Nat → Nat} {N b c : Nat} (h : px_rs σ t N b) (ht : ∀ i, t i < 256) (hc : c ≤ 302) : σ.1 2 2 = nI c ↔ tk_k t N b = c := by
  have := tk_k_lt ht N b
  rw [h.2.1, nI_eq (by omega) (by omega)]
theorem px_lsum {rc : Nat → sw_St → Int32 → Option (Int32 × sw_St)} {t : Nat → Nat} {N co use d : Nat} {item : Nat → tR} (hc : px_isC co) (ht : ∀ i, t i < 256) (hN : N ≤ 1600) (hit : ∀ b, b ≤ N → px_cp (fun σ => rc 4 σ (nI d)) t N co use 0 1 b (item b)) : ∀ (f fuel b i : Nat) (pend : List Nat) (wc : Int32), b ≤ N → N < b + f → f < fuel → i ≤ b → (pend = [] ∧ wc = -1 ∨ ∃ o, pend = [o] ∧ (o = 1 ∨ o = 2) ∧ wc = nI (px_xc o)) → px_cp (fun σ => L_X3_sum_4 rc fuel σ (nI d) wc (nI i)) t N co use pend.length 1 b (pl_loop t N item pp_o3 f pend b)
  | 0, fuel, b, i, pend, wc, hb, hf, hfu, hi, hp => by omega
  | f + 1, fuel + 1, b, i, pend, wc, hb, hf, hfu, hi, hp => by
    have tail : ∀ b1, b + 1 ≤ b1 → b1 ≤ N → px_cp (fun σ => S_X3_sum_38 rc (fun σ x1 x2 x3 => L_X3_sum_4 rc fuel σ x1 x2 x3) σ (nI d) (nI i)) t N co use 0 0 b1 (match pp_o3 (tk_k t N b1) with
      | none => .ok ([], b1)
      | some o => pl_loop t N item pp_o3 f [o] (tk_e t N b1)) := fun b1 h1 h2 => by
      unfold pp_o3
      have go : ∀ o, (o = 1 ∨ o = 2) → (tk_k t N b1 = 43 ∧ o = 1 ∨ tk_k t N b1 = 45 ∧ o = 2) → px_cp (fun σ => S_X3_sum_38 rc (fun σ x1 x2 x3 => L_X3_sum_4 rc fuel σ x1 x2 x3) σ (nI d) (nI i)) t N co use 0 1 b1 (pl_loop t N item pp_o3 f [o] (tk_e t N b1)) := fun o ho hk => by
        have hk1 : tk_k t N b1 ≠ 301 := by omega
        have hg := tk_e_gt h2 hk1
        refine px_cp.ad hc h2 hk1 (fun σ hs => ?_) (px_lsum hc ht hN hit f fuel (tk_e t N b1) (i + 1) [o] (nI (px_xc o)) (tk_e_sp t h2).2.1 (by omega) (by omega) (by omega) (Or.inr ⟨o, rfl, ho, rfl⟩))
        obtain ⟨σ1, q1, q2, q3⟩ := px_adv hs.1 ht hN (tk_e_sp t h2).2.1 hs.2.2.2
        refine ⟨σ1, q2, q3, ?_⟩
        unfold S_X3_sum_38 S_X3_sum_64 S_X3_sum_85
        rcases hk with ⟨hk, ho2⟩ | ⟨hk, ho2⟩
        · rw [if_pos (show σ.1 2 2 = 43 from (px_kne hs ht (c := 43) (by omega)).mpr hk), if_pos (show σ.1 2 2 = 43 from (px_kne hs ht (c := 43) (by omega)).mpr hk), q1, ho2]
          dsimp only [Option.bind_some]
          rw [nI_1]
          rfl
        · rw [if_neg (show ¬ σ.1 2 2 = 43 from fun y => by have := (px_kne hs ht (c := 43) (by omega)).mp y; omega), if_pos (show σ.1 2 2 = 45 from (px_kne hs ht (c := 45) (by omega)).mpr hk), if_neg (show ¬ σ.1 2 2 = 43 from fun y => by have := (px_kne hs ht (c := 43) (by omega)).mp y; omega), q1, ho2]
          dsimp only [Option.bind_some]
          rw [nI_1]
          rfl
      by_cases c1 : tk_k t N b1 = 43
      · rw [if_pos c1]
        exact (go 1 (Or.inl rfl) (Or.inl ⟨c1, rfl⟩)).w (by omega) (by omega)
      · rw [if_neg c1]
        by_cases c2 : tk_k t N b1 = 45
        · rw [if_pos c2]
          exact (go 2 (Or.inr rfl) (Or.inr ⟨c2, rfl⟩)).w (by omega) (by omega)
        · rw [if_neg c2]
          refine px_cp.nl h2 (fun σ hs => ?_)
          unfold S_X3_sum_38
          rw [if_neg (show ¬ σ.1 2 2 = 43 from fun y => c1 ((px_kne hs ht (c := 43) (by omega)).mp y)), if_neg (show ¬ σ.1 2 2 = 45 from fun y => c2 ((px_kne hs ht (c := 45) (by omega)).mp y))]
    have hS : ∀ σ, px_rs σ t N b → L_X3_sum_4 rc (fuel + 1) σ (nI d) wc (nI i) = (rc 4 σ (nI d)).bind fun q1 => if q1.1 = 0 then (some (0, q1.2)) else (if wc = (-1) then (S_X3_sum_38 rc (fun σ x1 x2 x3 => L_X3_sum_4 rc fuel σ x1 x2 x3) q1.2 (nI d) (nI i)) else ((q1.2.2.2 32 2).bind fun w2 => (if sw_isO sw_gX w2 0 = true then ((F_X0_emit q1.2 w2 wc).bind fun q3 => S_X3_sum_38 rc (fun σ x1 x2 x3 => L_X3_sum_4 rc fuel σ x1 x2 x3) q3.2 (nI d) (nI i)) else none))) := fun σ hs => by
      show S_X3_sum_4 rc _ σ (nI d) wc (nI i) = _
      unfold S_X3_sum_4
      rw [hs.1.2.2, if_neg (nI_nlt (by omega) (by omega))]
    refine px_cp.sq (z2 := 0) (G := fun b1 σ => if wc = (-1) then (S_X3_sum_38 rc (fun σ x1 x2 x3 => L_X3_sum_4 rc fuel σ x1 x2 x3) σ (nI d) (nI i)) else ((σ.2.2 32 2).bind fun w2 => (if sw_isO sw_gX w2 0 = true then ((F_X0_emit σ w2 wc).bind fun q3 => S_X3_sum_38 rc (fun σ x1 x2 x3 => L_X3_sum_4 rc fuel σ x1 x2 x3) q3.2 (nI d) (nI i)) else none))) hc (hit b hb) (fun σ σ' hs e => ?_) (fun σ σ' b1 hs _ _ _ _ _ e => ?_) (fun b1 h1 h2 => ?_)
    · rw [hS σ hs, e]
      rfl
    · rw [hS σ hs, e]
      dsimp only [Option.bind_some]
      rw [if_neg pz_10]
    · rcases hp with ⟨hp, hw⟩ | ⟨o, hp, ho, hw⟩
      · rw [hp, pp_ap_nil]
        simp only [if_pos hw]
        exact tail b1 h1 h2
      · rw [hp]
        refine px_cp.em hc hN h2 (fun σ σ' hs hco e => ?_) (tail b1 h1 h2)
        (try dsimp only)
        rw [if_neg (show ¬ wc = -1 from by rw [hw]; exact pz_nm1 (by rcases ho with ho | ho <;> rw [ho] <;> decide)), hco]
        dsimp only [Option.bind_some]
        rw [if_pos hc.sh.1, hw, e]
        rfl
theorem px_lproduct {rc : Nat → sw_St → Int32 → Option (Int32 × sw_St)} {t : Nat → Nat} {N co use d : Nat} {item : Nat → tR} (hc : px_isC co) (ht : ∀ i, t i < 256) (hN : N ≤ 1600) (hit : ∀ b, b ≤ N → px_cp (fun σ => rc 5 σ (nI d)) t N co use 0 1 b (item b)) : ∀ (f fuel b i : Nat) (pend : List Nat) (wc : Int32), b ≤ N → N < b + f → f < fuel → i ≤ b → (pend = [] ∧ wc = -1 ∨ ∃ o, pend = [o] ∧ (o = 3 ∨ o = 4) ∧ wc = nI (px_xc o)) → px_cp (fun σ => L_X3_product_4 rc fuel σ (nI d) wc (nI i)) t N co use pend.length 1 b (pl_loop t N item pp_o4 f pend b)
  | 0, fuel, b, i, pend, wc, hb, hf, hfu, hi, hp => by omega
  | f + 1, fuel + 1, b, i, pend, wc, hb, hf, hfu, hi, hp => by
    have tail : ∀ b1, b + 1 ≤ b1 → b1 ≤ N → px_cp (fun σ => S_X3_product_38 rc (fun σ x1 x2 x3 => L_X3_product_4 rc fuel σ x1 x2 x3) σ (nI d) (nI i)) t N co use 0 0 b1 (match pp_o4 (tk_k t N b1) with
      | none => .ok ([], b1)
      | some o => pl_loop t N item pp_o4 f [o] (tk_e t N b1)) := fun b1 h1 h2 => by
      unfold pp_o4
      have go : ∀ o, (o = 3 ∨ o = 4) → (tk_k t N b1 = 42 ∧ o = 3 ∨ tk_k t N b1 = 47 ∧ o = 4) → px_cp (fun σ => S_X3_product_38 rc (fun σ x1 x2 x3 => L_X3_product_4 rc fuel σ x1 x2 x3) σ (nI d) (nI i)) t N co use 0 1 b1 (pl_loop t N item pp_o4 f [o] (tk_e t N b1)) := fun o ho hk => by
        have hk1 : tk_k t N b1 ≠ 301 := by omega
        have hg := tk_e_gt h2 hk1
        refine px_cp.ad hc h2 hk1 (fun σ hs => ?_) (px_lproduct hc ht hN hit f fuel (tk_e t N b1) (i + 1) [o] (nI (px_xc o)) (tk_e_sp t h2).2.1 (by omega) (by omega) (by omega) (Or.inr ⟨o, rfl, ho, rfl⟩))
        obtain ⟨σ1, q1, q2, q3⟩ := px_adv hs.1 ht hN (tk_e_sp t h2).2.1 hs.2.2.2
        refine ⟨σ1, q2, q3, ?_⟩
        unfold S_X3_product_38 S_X3_product_64 S_X3_product_85
        rcases hk with ⟨hk, ho2⟩ | ⟨hk, ho2⟩
        · rw [if_pos (show σ.1 2 2 = 42 from (px_kne hs ht (c := 42) (by omega)).mpr hk), if_pos (show σ.1 2 2 = 42 from (px_kne hs ht (c := 42) (by omega)).mpr hk), q1, ho2]
          dsimp only [Option.bind_some]
          rw [nI_1]
          rfl
        · rw [if_neg (show ¬ σ.1 2 2 = 42 from fun y => by have := (px_kne hs ht (c := 42) (by omega)).mp y; omega), if_pos (show σ.1 2 2 = 47 from (px_kne hs ht (c := 47) (by omega)).mpr hk), if_neg (show ¬ σ.1 2 2 = 42 from fun y => by have := (px_kne hs ht (c := 42) (by omega)).mp y; omega), q1, ho2]
          dsimp only [Option.bind_some]
          rw [nI_1]
          rfl
      by_cases c1 : tk_k t N b1 = 42
      · rw [if_pos c1]
        exact (go 3 (Or.inl rfl) (Or.inl ⟨c1, rfl⟩)).w (by omega) (by omega)
      · rw [if_neg c1]
        by_cases c2 : tk_k t N b1 = 47
        · rw [if_pos c2]
          exact (go 4 (Or.inr rfl) (Or.inr ⟨c2, rfl⟩)).w (by omega) (by omega)
        · rw [if_neg c2]
          refine px_cp.nl h2 (fun σ hs => ?_)
          unfold S_X3_product_38
          rw [if_neg (show ¬ σ.1 2 2 = 42 from fun y => c1 ((px_kne hs ht (c := 42) (by omega)).mp y)), if_neg (show ¬ σ.1 2 2 = 47 from fun y => c2 ((px_kne hs ht (c := 47) (by omega)).mp y))]
    have hS : ∀ σ, px_rs σ t N b → L_X3_product_4 rc (fuel + 1) σ (nI d) wc (nI i) = (rc 5 σ (nI d)).bind fun q1 => if q1.1 = 0 then (some (0, q1.2)) else (if wc = (-1) then (S_X3_product_38 rc (fun σ x1 x2 x3 => L_X3_product_4 rc fuel σ x1 x2 x3) q1.2 (nI d) (nI i)) else ((q1.2.2.2 32 2).bind fun w2 => (if sw_isO sw_gX w2 0 = true then ((F_X0_emit q1.2 w2 wc).bind fun q3 => S_X3_product_38 rc (fun σ x1 x2 x3 => L_X3_product_4 rc fuel σ x1 x2 x3) q3.2 (nI d) (nI i)) else none))) := fun σ hs => by
      show S_X3_product_4 rc _ σ (nI d) wc (nI i) = _
      unfold S_X3_product_4
      rw [hs.1.2.2, if_neg (nI_nlt (by omega) (by omega))]
    refine px_cp.sq (z2 := 0) (G := fun b1 σ => if wc = (-1) then (S_X3_product_38 rc (fun σ x1 x2 x3 => L_X3_product_4 rc fuel σ x1 x2 x3) σ (nI d) (nI i)) else ((σ.2.2 32 2).bind fun w2 => (if sw_isO sw_gX w2 0 = true then ((F_X0_emit σ w2 wc).bind fun q3 => S_X3_product_38 rc (fun σ x1 x2 x3 => L_X3_product_4 rc fuel σ x1 x2 x3) q3.2 (nI d) (nI i)) else none))) hc (hit b hb) (fun σ σ' hs e => ?_) (fun σ σ' b1 hs _ _ _ _ _ e => ?_) (fun b1 h1 h2 => ?_)
    · rw [hS σ hs, e]
      rfl
    · rw [hS σ hs, e]
      dsimp only [Option.bind_some]
      rw [if_neg pz_10]
    · rcases hp with ⟨hp, hw⟩ | ⟨o, hp, ho, hw⟩
      · rw [hp, pp_ap_nil]
        simp only [if_pos hw]
        exact tail b1 h1 h2
      · rw [hp]
        refine px_cp.em hc hN h2 (fun σ σ' hs hco e => ?_) (tail b1 h1 h2)
        (try dsimp only)
        rw [if_neg (show ¬ wc = -1 from by rw [hw]; exact pz_nm1 (by rcases ho with ho | ho <;> rw [ho] <;> decide)), hco]
        dsimp only [Option.bind_some]
        rw [if_pos hc.sh.1, hw, e]
        rfl
theorem px_lboth {rc : Nat → sw_St → Int32 → Option (Int32 × sw_St)} {t : Nat → Nat} {N co use d : Nat} {item : Nat → tR} (hc : px_isC co) (ht : ∀ i, t i < 256) (hN : N ≤ 1600) (hit : ∀ b, b ≤ N → px_cp (fun σ => rc 2 σ (nI d)) t N co use 0 1 b (item b)) : ∀ (f fuel b i : Nat) (pend : List Nat), b ≤ N → N < b + f → f < fuel → i ≤ b → (pend = [] ∧ i = 0 ∨ pend = [10] ∧ 0 < i) → px_cp (fun σ => L_X3_both_2 rc fuel σ (nI d) (nI i)) t N co use pend.length 1 b (pl_loop t N item pp_o1 f pend b)
  | 0, fuel, b, i, pend, hb, hf, hfu, hi, hp => by omega
  | f + 1, fuel + 1, b, i, pend, hb, hf, hfu, hi, hp => by
    have tail : ∀ b1, b + 1 ≤ b1 → b1 ≤ N → px_cp (fun σ => S_X3_both_37 rc (fun σ x1 x2 => L_X3_both_2 rc fuel σ x1 x2) σ (nI d) (nI i)) t N co use 0 0 b1 (match pp_o1 (tk_k t N b1) with
      | none => .ok ([], b1)
      | some o => pl_loop t N item pp_o1 f [o] (tk_e t N b1)) := fun b1 h1 h2 => by
      unfold pp_o1
      by_cases c1 : tk_k t N b1 = 276
      · rw [if_pos c1]
        have hk1 : tk_k t N b1 ≠ 301 := by omega
        have hg := tk_e_gt h2 hk1
        refine (px_cp.ad (m := 0) hc h2 hk1 (fun σ hs => ?_) (px_lboth hc ht hN hit f fuel (tk_e t N b1) (i + 1) [10] (tk_e_sp t h2).2.1 (by omega) (by omega) (by omega) (Or.inr ⟨rfl, by omega⟩))).w (by omega) (by omega)
        obtain ⟨σ1, q1, q2, q3⟩ := px_adv hs.1 ht hN (tk_e_sp t h2).2.1 hs.2.2.2
        refine ⟨σ1, q2, q3, ?_⟩
        unfold S_X3_both_37
        rw [if_pos (show σ.1 2 2 = 276 from (px_kne hs ht (c := 276) (by omega)).mpr c1), q1]
        dsimp only [Option.bind_some]
        rw [nI_1]
      · rw [if_neg c1]
        refine px_cp.nl h2 (fun σ hs => ?_)
        unfold S_X3_both_37
        rw [if_neg (show ¬ σ.1 2 2 = 276 from fun y => c1 ((px_kne hs ht (c := 276) (by omega)).mp y))]
    have hS : ∀ σ, px_rs σ t N b → L_X3_both_2 rc (fuel + 1) σ (nI d) (nI i) = (rc 2 σ (nI d)).bind fun q1 => if q1.1 = 0 then (some (0, q1.2)) else (if nI i ≤ 0 then (S_X3_both_37 rc (fun σ x1 x2 => L_X3_both_2 rc fuel σ x1 x2) q1.2 (nI d) (nI i)) else ((q1.2.2.2 32 2).bind fun w2 => (if sw_isO sw_gX w2 0 = true then ((F_X0_emit q1.2 w2 10019).bind fun q3 => S_X3_both_37 rc (fun σ x1 x2 => L_X3_both_2 rc fuel σ x1 x2) q3.2 (nI d) (nI i)) else none))) := fun σ hs => by
      show S_X3_both_2 rc _ σ (nI d) (nI i) = _
      unfold S_X3_both_2
      rw [hs.1.2.2, if_neg (nI_nlt (by omega) (by omega))]
    refine px_cp.sq (z2 := 0) (G := fun b1 σ => if nI i ≤ 0 then (S_X3_both_37 rc (fun σ x1 x2 => L_X3_both_2 rc fuel σ x1 x2) σ (nI d) (nI i)) else ((σ.2.2 32 2).bind fun w2 => (if sw_isO sw_gX w2 0 = true then ((F_X0_emit σ w2 10019).bind fun q3 => S_X3_both_37 rc (fun σ x1 x2 => L_X3_both_2 rc fuel σ x1 x2) q3.2 (nI d) (nI i)) else none))) hc (hit b hb) (fun σ σ' hs e => ?_) (fun σ σ' b1 hs _ _ _ _ _ e => ?_) (fun b1 h1 h2 => ?_)
    · rw [hS σ hs, e]
      rfl
    · rw [hS σ hs, e]
      dsimp only [Option.bind_some]
      rw [if_neg pz_10]
    · rcases hp with ⟨hp, hw⟩ | ⟨hp, hw⟩
      · rw [hp, pp_ap_nil]
        have hw2 : nI i ≤ 0 := by rw [hw]; exact nI_le (b := 0) (by omega) (by omega)
        simp only [if_pos hw2]
        exact tail b1 h1 h2
      · rw [hp]
        refine px_cp.em hc hN h2 (fun σ σ' hs hco e => ?_) (tail b1 h1 h2)
        (try dsimp only)
        rw [if_neg (nI_nle hw (by omega)), hco]
        dsimp only [Option.bind_some]
        rw [if_pos hc.sh.1, show F_X0_emit σ co 10019 = _ from e]
        rfl
theorem px_ltest {rc : Nat → sw_St → Int32 → Option (Int32 × sw_St)} {t : Nat → Nat} {N co use d : Nat} {item : Nat → tR} (hc : px_isC co) (ht : ∀ i, t i < 256) (hN : N ≤ 1600) (hit : ∀ b, b ≤ N → px_cp (fun σ => rc 1 σ (nI d)) t N co use 0 1 b (item b)) : ∀ (f fuel b i : Nat) (pend : List Nat), b ≤ N → N < b + f → f < fuel → i ≤ b → (pend = [] ∧ i = 0 ∨ pend = [11] ∧ 0 < i) → px_cp (fun σ => L_X3_test_2 rc fuel σ (nI d) (nI i)) t N co use pend.length 1 b (pl_loop t N item pp_o0 f pend b)
  | 0, fuel, b, i, pend, hb, hf, hfu, hi, hp => by omega
  | f + 1, fuel + 1, b, i, pend, hb, hf, hfu, hi, hp => by
    have tail : ∀ b1, b + 1 ≤ b1 → b1 ≤ N → px_cp (fun σ => S_X3_test_37 rc (fun σ x1 x2 => L_X3_test_2 rc fuel σ x1 x2) σ (nI d) (nI i)) t N co use 0 0 b1 (match pp_o0 (tk_k t N b1) with
      | none => .ok ([], b1)
      | some o => pl_loop t N item pp_o0 f [o] (tk_e t N b1)) := fun b1 h1 h2 => by
      unfold pp_o0
      by_cases c1 : tk_k t N b1 = 275
      · rw [if_pos c1]
        have hk1 : tk_k t N b1 ≠ 301 := by omega
        have hg := tk_e_gt h2 hk1
        refine (px_cp.ad (m := 0) hc h2 hk1 (fun σ hs => ?_) (px_ltest hc ht hN hit f fuel (tk_e t N b1) (i + 1) [11] (tk_e_sp t h2).2.1 (by omega) (by omega) (by omega) (Or.inr ⟨rfl, by omega⟩))).w (by omega) (by omega)
        obtain ⟨σ1, q1, q2, q3⟩ := px_adv hs.1 ht hN (tk_e_sp t h2).2.1 hs.2.2.2
        refine ⟨σ1, q2, q3, ?_⟩
        unfold S_X3_test_37
        rw [if_pos (show σ.1 2 2 = 275 from (px_kne hs ht (c := 275) (by omega)).mpr c1), q1]
        dsimp only [Option.bind_some]
        rw [nI_1]
      · rw [if_neg c1]
        refine px_cp.nl h2 (fun σ hs => ?_)
        unfold S_X3_test_37
        rw [if_neg (show ¬ σ.1 2 2 = 275 from fun y => c1 ((px_kne hs ht (c := 275) (by omega)).mp y))]
    have hS : ∀ σ, px_rs σ t N b → L_X3_test_2 rc (fuel + 1) σ (nI d) (nI i) = (rc 1 σ (nI d)).bind fun q1 => if q1.1 = 0 then (some (0, q1.2)) else (if nI i ≤ 0 then (S_X3_test_37 rc (fun σ x1 x2 => L_X3_test_2 rc fuel σ x1 x2) q1.2 (nI d) (nI i)) else ((q1.2.2.2 32 2).bind fun w2 => (if sw_isO sw_gX w2 0 = true then ((F_X0_emit q1.2 w2 10020).bind fun q3 => S_X3_test_37 rc (fun σ x1 x2 => L_X3_test_2 rc fuel σ x1 x2) q3.2 (nI d) (nI i)) else none))) := fun σ hs => by
      show S_X3_test_2 rc _ σ (nI d) (nI i) = _
      unfold S_X3_test_2
      rw [hs.1.2.2, if_neg (nI_nlt (by omega) (by omega))]
    refine px_cp.sq (z2 := 0) (G := fun b1 σ => if nI i ≤ 0 then (S_X3_test_37 rc (fun σ x1 x2 => L_X3_test_2 rc fuel σ x1 x2) σ (nI d) (nI i)) else ((σ.2.2 32 2).bind fun w2 => (if sw_isO sw_gX w2 0 = true then ((F_X0_emit σ w2 10020).bind fun q3 => S_X3_test_37 rc (fun σ x1 x2 => L_X3_test_2 rc fuel σ x1 x2) q3.2 (nI d) (nI i)) else none))) hc (hit b hb) (fun σ σ' hs e => ?_) (fun σ σ' b1 hs _ _ _ _ _ e => ?_) (fun b1 h1 h2 => ?_)
    · rw [hS σ hs, e]
      rfl
    · rw [hS σ hs, e]
      dsimp only [Option.bind_some]
      rw [if_neg pz_10]
    · rcases hp with ⟨hp, hw⟩ | ⟨hp, hw⟩
      · rw [hp, pp_ap_nil]
        have hw2 : nI i ≤ 0 := by rw [hw]; exact nI_le (b := 0) (by omega) (by omega)
        simp only [if_pos hw2]
        exact tail b1 h1 h2
      · rw [hp]
        refine px_cp.em hc hN h2 (fun σ σ' hs hco e => ?_) (tail b1 h1 h2)
        (try dsimp only)
        rw [if_neg (nI_nle hw (by omega)), hco]
        dsimp only [Option.bind_some]
        rw [if_pos hc.sh.1, show F_X0_emit σ co 10020 = _ from e]
        rfl
theorem pp_okap (C : List Nat) (b : Nat) : (.ok (C, b) : tR) = pp_ap C (.ok ([], b)) := by
  show _ = Except.ok (C ++ [], b)
  rw [List.append_nil]
theorem pp_sgc {k o : Nat} (h : pp_sg k = some o) : (k = 60 ∧ o = 7) ∨ (k = 61 ∧ o = 9) ∨ (k = 62 ∧ o = 8) := by
  unfold pp_sg at h
  split at h
  · next e => exact Or.inl ⟨e, (Option.some.inj h).symm⟩
  · split at h
    · next e => exact Or.inr (Or.inl ⟨e, (Option.some.inj h).symm⟩)
    · split at h
      · next e => exact Or.inr (Or.inr ⟨e, (Option.some.inj h).symm⟩)
      · cases h
/-- all rules at one depth give those at the next -/
def px_PG (rc : Nat → sw_St → Int32 → Option (Int32 × sw_St)) (pr : Nat → Nat → Nat → tR) (t : Nat → Nat) (N co use k : Nat) : Prop := ∀ g d b, pp_nd g d ≤ k → g ≤ 5 → d ≤ 6 → b ≤ N → px_cp (fun σ => rc g σ (nI d)) t N co use 0 1 b (pr g d b)
theorem px_pfact {rc : Nat → sw_St → Int32 → Option (Int32 × sw_St)} {pr : Nat → Nat → Nat → tR} {t : Nat → Nat} {N co use k d b : Nat} (hc : px_isC co) (ht : ∀ i, t i < 256) (hN : N ≤ 1600) (hR : px_PG rc pr t N co use k) (hk : pp_nd 2 d ≤ k + 1) (hd : d ≤ 6) (hb : b ≤ N) : px_cp (fun σ => F_X3_fact rc σ (nI d)) t N co use 0 1 b (pp_fact t N pr d b) := by
  unfold pp_nd at hk
  unfold pp_fact
  by_cases c1 : tk_k t N b = 91
  · rw [if_pos c1]
    have k91 : ∀ σ, px_rs σ t N b → σ.1 2 2 = 91 := fun σ hs => (px_kne hs ht (c := 91) (by omega)).mpr c1
    by_cases c2 : 6 ≤ d
    · rw [if_pos c2]
      refine px_cp.er (fun σ hs => ?_)
      obtain ⟨σ', p1, p2⟩ := px_opensN hs c2 (by omega)
      refine ⟨σ', ?_, p2⟩
      unfold F_X3_fact S_X3_fact_106 S_X3_fact_107
      rw [if_pos (k91 σ hs), p1]
      dsimp only [Option.bind_some]
      rw [if_pos rfl, if_pos (Or.inl rfl)]
    · rw [if_neg c2]
      refine px_cp.ad (z := 0) (G := fun σ => (rc 0 σ (nI (d + 1))).bind fun q2 => if q2.1 = 0 then (S_X3_fact_106 rc q2.2) else ((F_X6_expect q2.2 93).bind fun q3 => if q3.1 = 0 then (S_X3_fact_106 rc q3.2) else (S_X3_fact_107 rc q3.2 1))) hc hb (by omega) (fun σ hs => ?_) ?_
      · obtain ⟨σ1, p1, p2, p3⟩ := px_opens hs ht hN hb (show d < 6 by omega)
        refine ⟨σ1, p2, p3, ?_⟩
        unfold F_X3_fact
        rw [if_pos (k91 σ hs), p1]
        dsimp only [Option.bind_some]
        rw [if_neg pz_10, nI_1]
      · refine (px_cp.sq (z2 := 1) (G := fun b1 σ => (F_X6_expect σ 93).bind fun q3 => if q3.1 = 0 then (S_X3_fact_106 rc q3.2) else (S_X3_fact_107 rc q3.2 1)) hc (hR 0 (d + 1) (tk_e t N b) (by unfold pp_nd; omega) (by omega) (by omega) (tk_e_sp t hb).2.1) (fun σ σ' hs e => ?_) (fun σ σ' b1 hs _ _ _ _ _ e => ?_) (fun b1 h1 h2 => ?_)).w (Nat.le_refl _) (by omega)
        · (try dsimp only at e ⊢)
          rw [e]
          dsimp only [Option.bind_some]
          rw [if_pos rfl]
          unfold S_X3_fact_106 S_X3_fact_107
          rw [if_pos (Or.inl rfl)]
        · (try dsimp only at e ⊢)
          rw [e]
          dsimp only [Option.bind_some]
          rw [if_neg pz_10]
        · refine px_cp.ex (G := fun σ => some (1, σ)) hc ht hN h2 (by omega) (by omega) (fun σ σ' e => ?_) (fun σ σ' e => ?_) (px_cp.nl (tk_e_sp t h2).2.1 (fun σ _ => rfl))
          · rw [show F_X6_expect σ 93 = _ from e]
            dsimp only [Option.bind_some]
            rw [if_pos rfl]
            unfold S_X3_fact_106 S_X3_fact_107
            rw [if_pos (Or.inl rfl)]
          · rw [show F_X6_expect σ 93 = _ from e]
            dsimp only [Option.bind_some]
            rw [if_neg pz_10]
            unfold S_X3_fact_107
            rw [if_pos (Or.inr rfl)]
  · rw [if_neg c1]
    have n91 : ∀ σ, px_rs σ t N b → ¬ σ.1 2 2 = 91 := fun σ hs y => c1 ((px_kne hs ht (c := 91) (by omega)).mp y)
    by_cases c3 : tk_k t N b = 277
    · rw [if_pos c3]
      have k277 : ∀ σ, px_rs σ t N b → σ.1 2 2 = 277 := fun σ hs => (px_kne hs ht (c := 277) (by omega)).mpr c3
      by_cases c2 : 6 ≤ d
      · rw [if_pos c2]
        refine px_cp.er (fun σ hs => ?_)
        obtain ⟨σ', p1, p2⟩ := px_opensN hs c2 (by omega)
        refine ⟨σ', ?_, p2⟩
        unfold F_X3_fact S_X3_fact_58
        rw [if_neg (n91 σ hs), if_pos (k277 σ hs), p1]
        dsimp only [Option.bind_some]
        rw [if_pos rfl]
      · rw [if_neg c2]
        refine px_cp.ad (z := 0) (G := fun σ => (rc 2 σ (nI (d + 1))).bind fun q5 => if q5.1 = 0 then (S_X3_fact_58 rc q5.2) else ((q5.2.2.2 32 2).bind fun w6 => (if sw_isO sw_gX w6 0 = true then ((F_X0_emit q5.2 w6 10021).bind fun q7 => some (1, q7.2)) else none))) hc hb (by omega) (fun σ hs => ?_) ?_
        · obtain ⟨σ1, p1, p2, p3⟩ := px_opens hs ht hN hb (show d < 6 by omega)
          refine ⟨σ1, p2, p3, ?_⟩
          unfold F_X3_fact
          rw [if_neg (n91 σ hs), if_pos (k277 σ hs), p1]
          dsimp only [Option.bind_some]
          rw [if_neg pz_10, nI_1]
        · refine (px_cp.sq (z2 := 0) (G := fun b1 σ => (σ.2.2 32 2).bind fun w6 => (if sw_isO sw_gX w6 0 = true then ((F_X0_emit σ w6 10021).bind fun q7 => some (1, q7.2)) else none)) hc (hR 2 (d + 1) (tk_e t N b) (by unfold pp_nd; omega) (by omega) (by omega) (tk_e_sp t hb).2.1) (fun σ σ' hs e => ?_) (fun σ σ' b1 hs _ _ _ _ _ e => ?_) (fun b1 h1 h2 => ?_)).w (Nat.le_refl _) (by omega)
          · (try dsimp only at e ⊢)
            rw [e]
            dsimp only [Option.bind_some]
            rw [if_pos rfl]
            rfl
          · (try dsimp only at e ⊢)
            rw [e]
            dsimp only [Option.bind_some]
            rw [if_neg pz_10]
          · (try dsimp only)
            rw [pp_okap [12] b1]
            refine px_cp.em (G := fun σ => some (1, σ)) hc hN h2 (fun σ σ' hs hco e => ?_) (px_cp.nl h2 (fun σ _ => rfl))
            rw [hco]
            dsimp only [Option.bind_some]
            rw [if_pos hc.sh.1, show F_X0_emit σ co 10021 = _ from e]
            rfl
    · rw [if_neg c3]
      have n277 : ∀ σ, px_rs σ t N b → ¬ σ.1 2 2 = 277 := fun σ hs y => c3 ((px_kne hs ht (c := 277) (by omega)).mp y)
      by_cases c4 : tk_k t N b = 278
      · rw [if_pos c4]
        -- the code, then the token
        intro σ n0 h1 h2 h3 h4 h5
        have hg := tk_e_gt hb (show tk_k t N b ≠ 301 by omega)
        obtain ⟨σ1, p1, p2, p3, p4, p5⟩ := px_em1 (o := 13) hc h1 h4 (by omega)
        obtain ⟨σ2, q1, q2, q3⟩ := px_adv p2.1 ht hN (tk_e_sp t hb).2.1 p2.2.2.2
        refine ⟨fun q hq => ?_, fun e he => by cases he⟩
        rw [← Except.ok.inj hq]
        refine ⟨σ2, ?_, q2, p3.trans (q3.po co), ⟨by rw [q3.2.2.1]; exact p4.1, by rw [q3.2.2.2.1]; exact p4.2⟩, p5.mv hc q3, by (try dsimp only); omega, (tk_e_sp t hb).2.1, by simp; omega⟩
        show F_X3_fact rc σ (nI d) = _
        unfold F_X3_fact
        rw [if_neg (n91 σ h1), if_neg (n277 σ h1), if_pos (show σ.1 2 2 = 278 from (px_kne h1 ht (c := 278) (by omega)).mpr c4), h3]
        dsimp only [Option.bind_some]
        rw [if_pos hc.sh.1, show F_X0_emit σ co 1 = _ from p1]
        dsimp only [Option.bind_some]
        rw [q1]
        rfl
      · rw [if_neg c4]
        have n278 : ∀ σ, px_rs σ t N b → ¬ σ.1 2 2 = 278 := fun σ hs y => c4 ((px_kne hs ht (c := 278) (by omega)).mp y)
        have hS : ∀ σ, px_rs σ t N b → F_X3_fact rc σ (nI d) = ((rc 3 σ (nI d)).bind fun q13 => if q13.1 = 0 then (some (0, q13.2)) else ((F_X3_signCode q13.2 (q13.2.1 2 2)).bind fun q14 => if q14.1 = (-1) then ((F_X6_fail q14.2 1 (q14.2.1 2 3)).bind fun q20 => if q20.1 = 0 ∨ q20.1 = 1 then some (q20.1, q20.2) else none) else ((F_X6_advance q14.2).bind fun q15 => (rc 3 q15.2 (nI d)).bind fun q16 => if q16.1 = 0 then (some (0, q16.2)) else ((q16.2.2.2 32 2).bind fun w17 => (if sw_isO sw_gX w17 0 = true then ((F_X0_emit q16.2 w17 q14.1).bind fun q18 => some (1, q18.2)) else none))))) := fun σ hs => by
          unfold F_X3_fact
          rw [if_neg (n91 σ hs), if_neg (n277 σ hs), if_neg (n278 σ hs)]
        refine px_cp.sq (z2 := 0) (G := fun b1 σ => (F_X3_signCode σ (σ.1 2 2)).bind fun q14 => if q14.1 = (-1) then ((F_X6_fail q14.2 1 (q14.2.1 2 3)).bind fun q20 => if q20.1 = 0 ∨ q20.1 = 1 then some (q20.1, q20.2) else none) else ((F_X6_advance q14.2).bind fun q15 => (rc 3 q15.2 (nI d)).bind fun q16 => if q16.1 = 0 then (some (0, q16.2)) else ((q16.2.2.2 32 2).bind fun w17 => (if sw_isO sw_gX w17 0 = true then ((F_X0_emit q16.2 w17 q14.1).bind fun q18 => some (1, q18.2)) else none)))) hc (hR 3 d b (by unfold pp_nd; omega) (by omega) hd hb) (fun σ σ' hs e => ?_) (fun σ σ' b1 hs _ _ _ _ _ e => ?_) (fun b1 h1 h2 => ?_)
        · rw [hS σ hs, e]
          rfl
        · rw [hS σ hs, e]
          dsimp only [Option.bind_some]
          rw [if_neg pz_10]
        · cases hsg : pp_sg (tk_k t N b1) with
          | none =>
            refine px_cp.er (fun σ hs => ?_)
            obtain ⟨σ', p1, p2⟩ := px_fail (σ := σ) (kd := 1) (pl := tk_s t N b1)
            refine ⟨σ', ?_, p2⟩
            have hno : tk_k t N b1 ≠ 60 ∧ tk_k t N b1 ≠ 61 ∧ tk_k t N b1 ≠ 62 := by
              unfold pp_sg at hsg
              refine ⟨fun y => ?_, fun y => ?_, fun y => ?_⟩ <;> (rw [y] at hsg; cases hsg)
            have esc : F_X3_signCode σ (σ.1 2 2) = some (-1, σ) := by
              unfold F_X3_signCode
              rw [if_neg (show ¬ σ.1 2 2 = 60 from fun y => hno.1 ((px_kne hs ht (c := 60) (by omega)).mp y)), if_neg (show ¬ σ.1 2 2 = 61 from fun y => hno.2.1 ((px_kne hs ht (c := 61) (by omega)).mp y)), if_neg (show ¬ σ.1 2 2 = 62 from fun y => hno.2.2 ((px_kne hs ht (c := 62) (by omega)).mp y))]
            rw [esc]
            dsimp only [Option.bind_some]
            rw [if_pos rfl, hs.2.2.1, show F_X6_fail σ 1 (nI (tk_s t N b1)) = _ from p1]
            dsimp only [Option.bind_some]
            rw [if_pos (Or.inl rfl)]
          | some o =>
            have hso := pp_sgc hsg
            have hox : px_xc o < 2 ^ 31 := by rcases hso with ⟨-, h⟩ | ⟨-, h⟩ | ⟨-, h⟩ <;> rw [h] <;> decide
            refine (px_cp.ad (m := 0) (z := 0) (G := fun σ => (rc 3 σ (nI d)).bind fun q16 => if q16.1 = 0 then (some (0, q16.2)) else ((q16.2.2.2 32 2).bind fun w17 => (if sw_isO sw_gX w17 0 = true then ((F_X0_emit q16.2 w17 (nI (px_xc o))).bind fun q18 => some (1, q18.2)) else none))) hc h2 (by omega) (fun σ hs => ?_) ?_).w (by omega) (by omega)
            · obtain ⟨σ1, q1, q2, q3⟩ := px_adv hs.1 ht hN (tk_e_sp t h2).2.1 hs.2.2.2
              refine ⟨σ1, q2, q3, ?_⟩
              have esc : F_X3_signCode σ (σ.1 2 2) = some (nI (px_xc o), σ) := by
                unfold F_X3_signCode
                rcases hso with ⟨h, ho⟩ | ⟨h, ho⟩ | ⟨h, ho⟩
                · rw [if_pos (show σ.1 2 2 = 60 from (px_kne hs ht (c := 60) (by omega)).mpr h), ho]
                  rfl
                · rw [if_neg (show ¬ σ.1 2 2 = 60 from fun y => by have := (px_kne hs ht (c := 60) (by omega)).mp y; omega), if_pos (show σ.1 2 2 = 61 from (px_kne hs ht (c := 61) (by omega)).mpr h), ho]
                  rfl
                · rw [if_neg (show ¬ σ.1 2 2 = 60 from fun y => by have := (px_kne hs ht (c := 60) (by omega)).mp y; omega), if_neg (show ¬ σ.1 2 2 = 61 from fun y => by have := (px_kne hs ht (c := 61) (by omega)).mp y; omega), if_pos (show σ.1 2 2 = 62 from (px_kne hs ht (c := 62) (by omega)).mpr h), ho]
                  rfl
              rw [esc]
              dsimp only [Option.bind_some]
              rw [if_neg (pz_nm1 hox), q1]
              rfl
            · refine (px_cp.sq (z2 := 0) (G := fun b2 σ => (σ.2.2 32 2).bind fun w17 => (if sw_isO sw_gX w17 0 = true then ((F_X0_emit σ w17 (nI (px_xc o))).bind fun q18 => some (1, q18.2)) else none)) hc (hR 3 d (tk_e t N b1) (by unfold pp_nd; omega) (by omega) hd (tk_e_sp t h2).2.1) (fun σ σ' hs e => ?_) (fun σ σ' b2 hs _ _ _ _ _ e => ?_) (fun b2 h3 h4 => ?_)).w (Nat.le_refl _) (by omega)
              · (try dsimp only at e ⊢)
                rw [e]
                rfl
              · (try dsimp only at e ⊢)
                rw [e]
                dsimp only [Option.bind_some]
                rw [if_neg pz_10]
              · (try dsimp only)
                rw [pp_okap [o] b2]
                refine px_cp.em (G := fun σ => some (1, σ)) hc hN h4 (fun σ σ' hs hco e => ?_) (px_cp.nl h4 (fun σ _ => rfl))
                rw [hco]
                dsimp only [Option.bind_some]
                rw [if_pos hc.sh.1, e]
                rfl

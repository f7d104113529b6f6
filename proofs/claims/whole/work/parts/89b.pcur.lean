/-! How curious one was: the class. -/
theorem g_go_snoc {l : Nat → Nat → Nat} {P : Nat → List Nat} {op : Nat → Bool} {cur s : Nat} : ∀ (n day : Nat) (row : Nat → Nat), g_go l P op cur s (n + 1) day row = g_step l P op (day + n) cur (g_go l P op cur s n day row) s
  | 0, _, _ => rfl
  | n + 1, day, row => by
    show g_go l P op cur s (n + 1) (day + 1) (g_step l P op day cur row s) = _
    rw [g_go_snoc n (day + 1) (g_step l P op day cur row s), show day + 1 + n = day + (n + 1) by omega]
    rfl
/-- the crimp of a sheep that is so curious, so many days ahead -/
def g_cr (l : Nat → Nat → Nat) (P : Nat → List Nat) (D : g_D) (s c d : Nat) : Nat := g_go l P (fun k => (D.1 2).testBit k) c s d (D.1 0) (D.2.1 s) 2
theorem g_rk_cur {c cur : Nat} {row : Nat → Nat} (h : g_rk cur row) (hc : c ≤ 9) : g_rk c row := ⟨hc, h.2⟩
theorem g_cr_lt {l : Nat → Nat → Nat} {P : Nat → List Nat} {D : g_D} {s c d : Nat} (hg : g_ld l P) (hd : g_dk l D) (hs : s < l 0 2) (hc : c ≤ 9) : g_cr l P D s c d < 64 := by
  obtain ⟨h1, h2⟩ := hd.2.2.2.1 s hs
  exact (g_go_rk hg d (D.1 0) (D.2.1 s) (g_rk_cur h1 hc) h2).1.2.2.2.1
def px_cf (σ : sw_St) (l : Nat → Nat → Nat) (P : Nat → List Nat) (D : g_D) (s most n : Nat) : Prop := ∀ c d, c < n → d ≤ most → σ.1 57 (31 * c + d) = nI (g_cr l P D s c d)
theorem px_ix31 (s f : Nat) : nI s * 31 + nI f = nI (31 * s + f) := by
  rw [show (31 : Int32) = nI 31 from rfl, pk_mul, nI_add, Nat.mul_comm]
theorem px_fc40 {s c most : Nat} {c9 : sw_St → Int32 → Int32 → Int32 → Option (Unit × sw_St)} {w : Nat} {l : Nat → Nat → Nat} {P : Nat → List Nat} {nm : g_N} {D : g_D} {U : List g_D} {F : List (Nat × Nat × Nat)} {T : List Nat} {sd : Nat} {rf : Nat → Int32} {ft : Int32 × Int32} {im : List Nat} (hg : g_ld l P) (hd : g_dk l D) (hs : s < l 0 2) (hc : c < 10) (hm : most ≤ 30) (hmd : D.1 0 + most ≤ 999) : ∀ (n fuel d : Nat) (σ : sw_St), RX σ w l P nm D U F T sd rf ft im → px_vw σ 46 (D.1 0 + (d - 1)) (D.1 2) c (g_go l P (fun k => (D.1 2).testBit k) c s (d - 1) (D.1 0) (D.2.1 s)) s → px_cf σ l P D s most c → (∀ e, e < d → σ.1 57 (31 * c + e) = nI (g_cr l P D s c e)) → d + n = most + 1 → n < fuel →
    ∃ σ', L_X1_fillCrimps_40 c9 fuel σ (nI s) (nI most) (nI c) (nI d) = c9 σ' (nI s) (nI most) (nI (c + 1)) ∧ RX σ' w l P nm D U F T sd rf ft im ∧ px_cf σ' l P D s most (c + 1)
  | 0, fuel + 1, d, σ, h, hv, hcf, he, hdn, hf => by
    refine ⟨σ, ?_, h, fun c' d' h1 h2 => ?_⟩
    · show S_X1_fillCrimps_40 c9 _ σ (nI s) (nI most) (nI c) (nI d) = _
      unfold S_X1_fillCrimps_40
      rw [if_pos (nI_lt (by omega) (by omega)), nI_1]
    · by_cases e : c' = c
      · rw [e]; exact he d' (by omega)
      · exact hcf c' d' (by omega) h2
  | n + 1, fuel + 1, d, σ, h, hv, hcf, he, hdn, hf => by
    have h6 := hg.2.2.1
    have h10 := hg.2.1
    have h2p : 2 ^ l 0 1 ≤ 2 ^ 10 := Nat.pow_le_pow_right (by omega) h10
    have hoL := hd.2.2.1
    obtain ⟨hr, hf0⟩ := hd.2.2.2.1 s hs
    have hr := g_rk_cur hr (show c ≤ 9 by omega)
    obtain ⟨hr1, hf1⟩ := g_go_rk (op := fun k => (D.1 2).testBit k) (s := s) hg (d - 1) (D.1 0) (D.2.1 s) hr hf0
    have step : ∃ σ1, S_X1_fillCrimps_40 c9 (fun σ x1 x2 x3 x4 => L_X1_fillCrimps_40 c9 fuel σ x1 x2 x3 x4) σ (nI s) (nI most) (nI c) (nI d) = S_X1_fillCrimps_64 c9 (fun σ x1 x2 x3 x4 => L_X1_fillCrimps_40 c9 fuel σ x1 x2 x3 x4) σ1 (nI s) (nI most) (nI c) (nI d) ∧ RX σ1 w l P nm D U F T sd rf ft im ∧ px_vw σ1 46 (D.1 0 + d) (D.1 2) c (g_go l P (fun k => (D.1 2).testBit k) c s d (D.1 0) (D.2.1 s)) s ∧ σ1.1 57 = σ.1 57 := by
      unfold S_X1_fillCrimps_40
      rw [if_neg (nI_nlt (by omega) (by omega))]
      by_cases d0 : d = 0
      · refine ⟨σ, by rw [if_pos (show nI d ≤ 0 from by rw [d0]; exact nI_le (b := 0) (by omega) (by omega))], h, ?_, rfl⟩
        rw [d0] at hv ⊢
        exact hv
      · obtain ⟨σ2, q1, q2, q3, q4, q5⟩ := px_goOn (B := []) (N := 1) hg (show D.1 2 < 1024 by omega) (by simp) (by omega) 1 sw_fuel 0 (D.1 0 + (d - 1)) _ σ h.1 hv hr1 hf1 trivial h.2.2.2.2.2.2.2.2.2.2.2.1 (by omega) (by have := sw_fuel_ge; omega) (by omega)
        refine ⟨σ2, ?_, h.mv (q3.mono (by decide)) q5, ?_, (q3 57 (by decide)).1⟩
        · rw [if_neg (nI_nle (by omega) (by omega))]
          unfold F_X2_goOn
          rw [show L_X2_goOn_3 sw_fuel σ 46 (nI s) 1 0 = _ from q1]
          rfl
        · have e := g_go_snoc (l := l) (P := P) (op := fun k => (D.1 2).testBit k) (cur := c) (s := s) (d - 1) (D.1 0) (D.2.1 s)
          rw [show d - 1 + 1 = d by omega] at e
          rw [e, show D.1 0 + d = D.1 0 + (d - 1) + 1 by omega]
          exact q2
    obtain ⟨σ1, p1, p2, p3, p4⟩ := step
    have m1 : pz_sm [57] σ1 (sw_uI σ1 57 (31 * c + d) (nI (g_cr l P D s c d))) := (pz_sm.refl _ σ1).I (by decide) _ _
    obtain ⟨σ', r1, r2, r3⟩ := px_fc40 (c9 := c9) hg hd hs hc hm hmd n fuel (d + 1) (sw_uI σ1 57 (31 * c + d) (nI (g_cr l P D s c d))) (p2.mv (m1.mono (by decide)) (by rw [pz_Io (by decide)]; exact p2.2.2.2.2.2.2.2.2.2.2.2.1)) (p3.mv m1 (by decide)) (fun c' d' h1 h2 => by rw [pz_Ik (by omega), p4]; exact hcf c' d' h1 h2) (fun e h1 => by
      by_cases z : e = d
      · rw [z, pz_Ie rfl rfl]
      · rw [pz_Ik (by omega), p4]
        exact he e (by omega)) (by omega) (by omega)
    refine ⟨σ', ?_, r2, r3⟩
    show S_X1_fillCrimps_40 c9 _ σ (nI s) (nI most) (nI c) (nI d) = _
    rw [p1]
    unfold S_X1_fillCrimps_64
    rw [if_pos (pz_inb (by omega) (by omega)), px_ix31, if_pos (pz_inb (by omega) (by omega)), nI_clamp (by omega), nI_clamp (by omega), show σ1.1 49 s = nI (g_cr l P D s c d) from p3.2.2.2.2.2.2.1, nI_1]
    exact r1
theorem px_fc9 {s most : Nat} {w : Nat} {l : Nat → Nat → Nat} {P : Nat → List Nat} {nm : g_N} {D : g_D} {U : List g_D} {F : List (Nat × Nat × Nat)} {T : List Nat} {sd : Nat} {rf : Nat → Int32} {ft : Int32 × Int32} {im : List Nat} (hg : g_ld l P) (hd : g_dk l D) (hs : s < l 0 2) (hm : most ≤ 30) (hmd : D.1 0 + most ≤ 999) : ∀ (n fuel c : Nat) (σ : sw_St), RX σ w l P nm D U F T sd rf ft im → px_cf σ l P D s most c → c + n = 10 → n < fuel →
    ∃ σ', L_X1_fillCrimps_9 fuel σ (nI s) (nI most) (nI c) = some ((), σ') ∧ RX σ' w l P nm D U F T sd rf ft im ∧ px_cf σ' l P D s most 10
  | 0, fuel + 1, c, σ, h, hcf, hc, hf => by
    refine ⟨σ, ?_, h, by rw [show (10 : Nat) = c by omega]; exact hcf⟩
    show S_X1_fillCrimps_9 _ σ (nI s) (nI most) (nI c) = _
    unfold S_X1_fillCrimps_9
    rw [if_pos (show (10 : Int32) ≤ nI c from nI_le (a := 10) (by omega) (by omega))]
  | n + 1, fuel + 1, c, σ, h, hcf, hc, hf => by
    have h6 := hg.2.2.1
    obtain ⟨σ1, p1, p2, p3⟩ := px_copyOne (h.2.2.2.1.vw (Or.inl rfl) hs h6)
    have m2 : pz_sm [46, 47, 48, 49, 50, 51, 52] σ (sw_uI σ1 51 s (nI c)) := p3.I (by decide) _ _
    have p2' : px_vw (sw_uI σ1 51 s (nI c)) 46 (D.1 0) (D.1 2) c (D.2.1 s) s := by
      obtain ⟨a1, a2, a3, a4, a5, a6, a7, a8, a9, a10⟩ := p2
      exact ⟨a1, a2, by rw [pz_Io (by decide)]; exact a3, by rw [pz_Io (by decide)]; exact a4, by rw [pz_Io (by decide)]; exact a5, by rw [pz_Io (by decide)]; exact a6, by rw [pz_Io (by decide)]; exact a7, by rw [pz_Io (by decide)]; exact a8, pz_Ie rfl rfl, fun f hf => by rw [pz_Io (by decide)]; exact a10 f hf⟩
    have h' := h.mv (m2.mono (by decide)) (by rw [m2.r (by decide)]; exact h.2.2.2.2.2.2.2.2.2.2.2.1)
    obtain ⟨σ2, q1, q2, q3⟩ := px_fc40 (c9 := fun σ x1 x2 x3 => L_X1_fillCrimps_9 fuel σ x1 x2 x3) hg hd hs (show c < 10 by omega) hm hmd (most + 1) sw_fuel 0 _ h' p2' (fun c' d' h1 h2 => by rw [m2.r (by decide)]; exact hcf c' d' h1 h2) (fun e h1 => by omega) (by omega) (by have := sw_fuel_ge; omega)
    obtain ⟨σ3, r1, r2, r3⟩ := px_fc9 hg hd hs hm hmd n fuel (c + 1) σ2 q2 q3 (by omega) (by omega)
    refine ⟨σ3, ?_, r2, r3⟩
    show S_X1_fillCrimps_9 _ σ (nI s) (nI most) (nI c) = _
    unfold S_X1_fillCrimps_9
    rw [if_neg (show ¬ (10 : Int32) ≤ nI c from nI_ge (b := 10) (by omega) (by omega)), p1]
    dsimp only [Option.bind]
    rw [if_pos (pz_inb (by omega) (by omega)), nI_clamp (by omega)]
    exact q1.trans r1
theorem g_bits_cong {p q : Nat → Bool} : ∀ {n : Nat}, (∀ i, i < n → p i = q i) → g_bits p n = g_bits q n
  | 0, _ => rfl
  | n + 1, h => by
    unfold g_bits
    rw [h n (by omega), g_bits_cong (fun i hi => h i (by omega))]
theorem g_bits_0 {p : Nat → Bool} : ∀ {n : Nat}, (∀ i, i < n → p i = false) → g_bits p n = 0
  | 0, _ => rfl
  | n + 1, h => by
    unfold g_bits
    rw [h n (by omega), if_neg (by decide), g_bits_0 (fun i hi => h i (by omega))]
theorem g_bits_and {p q : Nat → Bool} {n : Nat} : g_bits p n &&& g_bits q n = g_bits (fun i => p i && q i) n := by
  apply Nat.eq_of_testBit_eq
  intro i
  rw [Nat.testBit_and, g_bits_at, g_bits_at, g_bits_at]
  cases decide (i < n) <;> cases p i <;> cases q i <;> rfl
theorem px_cby {σ : sw_St} {l : Nat → Nat → Nat} {P : Nat → List Nat} {D : g_D} {s most n k : Nat} (hg : g_ld l P) (hd : g_dk l D) (hs : s < l 0 2) (hcf : px_cf σ l P D s most 10) (hn : n ≤ most) (hm : most ≤ 30) (hk : k < 64) : ∀ (j fuel c : Nat), c + j = 10 → j < fuel → L_X1_curiousBy_5 fuel σ (nI n) (nI k) (nI (g_bits (fun c => decide (g_cr l P D s c n = k)) c)) (nI c) = some (nI (g_bits (fun c => decide (g_cr l P D s c n = k)) 10), σ)
  | 0, fuel + 1, c, hc, hf => by
    show S_X1_curiousBy_5 _ σ (nI n) (nI k) _ (nI c) = _
    unfold S_X1_curiousBy_5
    rw [if_pos (show (10 : Int32) ≤ nI c from nI_le (a := 10) (by omega) (by omega)), show c = 10 by omega]
  | j + 1, fuel + 1, c, hc, hf => by
    have hlt := g_cr_lt (d := n) hg hd hs (show c ≤ 9 by omega)
    have ih := px_cby hg hd hs hcf hn hm hk j fuel (c + 1) (by omega) (by omega)
    show S_X1_curiousBy_5 _ σ (nI n) (nI k) _ (nI c) = _
    unfold S_X1_curiousBy_5 S_X1_curiousBy_35
    rw [if_neg (show ¬ (10 : Int32) ≤ nI c from nI_ge (b := 10) (by omega) (by omega)), px_ix31, if_pos (pz_inb (by omega) (by omega)), nI_clamp (by omega), hcf c n (by omega) hn, nI_1]
    rw [show g_bits (fun c => decide (g_cr l P D s c n = k)) (c + 1) = if decide (g_cr l P D s c n = k) = true then 2 ^ c + g_bits (fun c => decide (g_cr l P D s c n = k)) c else g_bits (fun c => decide (g_cr l P D s c n = k)) c from rfl] at ih
    by_cases e : g_cr l P D s c n = k
    · rw [if_pos (decide_eq_true e)] at ih
      rw [if_pos (by rw [e]), pz_shl (by omega), px_or (by omega)]
      exact ih
    · rw [if_neg (by simpa using e)] at ih
      rw [if_neg (fun z => e (by rw [nI_eq (by omega) (by omega)] at z; exact z))]
      exact ih
/-- what a row that is felt asks of the one that is thought so curious -/
def g_okr (l : Nat → Nat → Nat) (P : Nat → List Nat) (D : g_D) (s : Nat) (r : Nat × Nat × Nat) (c : Nat) : Bool := decide (D.1 0 + r.1 ≤ 999) && decide (g_cr l P D r.2.1 (if r.2.1 = s then c else l 3 (2 * r.2.1 + 1)) r.1 = r.2.2)
def g_cs (l : Nat → Nat → Nat) (P : Nat → List Nat) (D : g_D) (F : List (Nat × Nat × Nat)) (s : Nat) : Nat := g_bits (fun c => F.all (fun r => g_okr l P D s r c)) 10
theorem g_drp {α : Type} {L : List α} {i : Nat} {d : α} (h : i < L.length) : L.drop i = L.getD i d :: L.drop (i + 1) := by
  rw [List.drop_eq_getElem_cons h, List.getD_eq_getElem?_getD, List.getElem?_eq_getElem h]
  rfl
theorem g_getD_mem {α : Type} {L : List α} {i : Nat} {d : α} (h : i < L.length) : L.getD i d ∈ L := by
  rw [List.getD_eq_getElem?_getD, List.getElem?_eq_getElem h]
  exact List.getElem_mem h
theorem px_most30 {σ : sw_St} {day : Nat} (h : σ.1 38 0 = nI day) (hd : day ≤ 999) : F_X1_daysAtMost σ 30 = some (nI (min 30 (999 - day)), σ) := by
  unfold F_X1_daysAtMost
  rw [h, show (999 : Int32) - nI day = nI (999 - day) from by rw [show (999 : Int32) = nI 999 from rfl, pk_sub (by omega)], show (30 : Int32) = nI 30 from rfl, px_min (by omega) (by omega)]
  rfl
theorem px_cb {s : Nat} {w : Nat} {l : Nat → Nat → Nat} {P : Nat → List Nat} {nm : g_N} {D : g_D} {U : List g_D} {F : List (Nat × Nat × Nat)} {T : List Nat} {sd : Nat} {rf : Nat → Int32} {ft : Int32 × Int32} {im : List Nat} (hG : RG l P nm D U F T sd im) (hs : s < l 0 2) : ∀ (n fuel i : Nat) (q : Nat → Bool) (σ : sw_St), RX σ w l P nm D U F T sd rf ft im → px_cf σ l P D s (min 30 (999 - D.1 0)) 10 → i + n = F.length → n < fuel →
    ∃ σ', L_X1_curiousBits_6 fuel σ (nI s) (nI (g_bits q 10)) (nI i) = some (nI (g_bits (fun c => q c && (F.drop i).all (fun r => g_okr l P D s r c)) 10), σ') ∧ RX σ' w l P nm D U F T sd rf ft im ∧ px_cf σ' l P D s (min 30 (999 - D.1 0)) 10
  | 0, fuel + 1, i, q, σ, h, hcf, hi, hf => by
    have h16 := hG.2.2.2.2.1.1
    refine ⟨σ, ?_, h, hcf⟩
    show S_X1_curiousBits_6 _ σ (nI s) (nI (g_bits q 10)) (nI i) = _
    unfold S_X1_curiousBits_6
    rw [h.2.2.2.2.2.1.1, if_pos (nI_le (by omega) (by omega)), List.drop_eq_nil_of_le (by omega)]
    congr 3
    exact g_bits_cong (fun i _ => by rw [List.all_nil, Bool.and_true])
  | n + 1, fuel + 1, i, q, σ, h, hcf, hi, hf => by
    have hg := hG.1
    have hd := hG.2.2.1
    have h6 := hg.2.2.1
    have h16 := hG.2.2.2.2.1.1
    have h10 := hg.2.1
    have h2p : 2 ^ l 0 1 ≤ 2 ^ 10 := Nat.pow_le_pow_right (by omega) h10
    have hoL := hd.2.2.1
    have hd9 := hd.1
    have hil : i < F.length := by omega
    obtain ⟨f1, f2, f3⟩ := h.2.2.2.2.2.1.2 i hil
    obtain ⟨b1, b2, b3⟩ := hG.2.2.2.2.1.2 _ (g_getD_mem (d := (0, 0, 0)) hil)
    have edr : F.drop i = F.getD i (0, 0, 0) :: F.drop (i + 1) := g_drp hil
    rw [edr]
    generalize F.getD i (0, 0, 0) = r at f1 f2 f3 b1 b2 b3
    have e0 : nI i * 3 = nI (3 * i) := by rw [show (3 : Int32) = nI 3 from rfl, pk_mul, Nat.mul_comm]
    have e1 : nI (3 * i) + 1 = nI (3 * i + 1) := nI_1 _
    have e2 : nI (3 * i) + 2 = nI (3 * i + 2) := nI_add _ 2
    have un : ∀ (q' : Nat → Bool) (σ1 : sw_St), RX σ1 w l P nm D U F T sd rf ft im → px_cf σ1 l P D s (min 30 (999 - D.1 0)) 10 → (∀ c, c < 10 → q' c = (q c && g_okr l P D s r c)) → S_X1_curiousBits_6 (fun σ x1 x2 x3 => L_X1_curiousBits_6 fuel σ x1 x2 x3) σ (nI s) (nI (g_bits q 10)) (nI i) = L_X1_curiousBits_6 fuel σ1 (nI s) (nI (g_bits q' 10)) (nI (i + 1)) → ∃ σ', L_X1_curiousBits_6 (fuel + 1) σ (nI s) (nI (g_bits q 10)) (nI i) = some (nI (g_bits (fun c => q c && (r :: F.drop (i + 1)).all (fun r => g_okr l P D s r c)) 10), σ') ∧ RX σ' w l P nm D U F T sd rf ft im ∧ px_cf σ' l P D s (min 30 (999 - D.1 0)) 10 := fun q' σ1 x1 x2 x3 x4 => by
      obtain ⟨σ', y1, y2, y3⟩ := px_cb hG hs n fuel (i + 1) q' σ1 x1 x2 (by omega) (by omega)
      refine ⟨σ', ?_, y2, y3⟩
      show S_X1_curiousBits_6 _ σ (nI s) (nI (g_bits q 10)) (nI i) = _
      rw [x4, y1]
      congr 3
      exact g_bits_cong (fun c hc => by rw [x3 c hc, List.all_cons, Bool.and_assoc])
    by_cases c1 : r.1 ≤ min 30 (999 - D.1 0)
    · have t1 : decide (D.1 0 + r.1 ≤ 999) = true := decide_eq_true (by omega)
      by_cases c2 : r.2.1 = s
      · refine un (fun c => q c && decide (g_cr l P D s c r.1 = r.2.2)) σ h hcf (fun c hc => ?_) ?_
        · unfold g_okr
          rw [t1, Bool.true_and, if_pos c2, c2]
        · unfold S_X1_curiousBits_6 S_X1_curiousBits_130 F_X1_curiousBy
          rw [h.2.2.2.2.2.1.1, if_neg (nI_ge hil (by omega)), e0, e1, e2, if_pos (pz_inb (by omega) (by omega)), if_pos (pz_inb (by omega) (by omega)), if_pos (pz_inb (by omega) (by omega)), px_most30 h.2.2.2.1.1 hd9]
          dsimp only [Option.bind]
          rw [nI_clamp (by omega), nI_clamp (by omega), nI_clamp (by omega), f1, f2, f3, if_pos (nI_le c1 (by omega)), if_pos (by rw [c2]), show L_X1_curiousBy_5 sw_fuel σ (nI r.1) (nI r.2.2) 0 0 = _ from px_cby hg hd hs hcf c1 (by omega) b3 10 sw_fuel 0 (by omega) (by have := sw_fuel_ge; omega)]
          dsimp only
          rw [fa_and, g_bits_and, nI_1]
      · obtain ⟨hr, hf0⟩ := hd.2.2.2.1 r.2.1 b2
        obtain ⟨σ1, p1, p2, p3⟩ := px_copyOne (h.2.2.2.1.vw (Or.inl rfl) b2 h6)
        obtain ⟨σ2, q1, q2, q3, q4, q5⟩ := px_goOn (B := []) (N := r.1) hg (show D.1 2 < 1024 by omega) (by simp) (by omega) r.1 sw_fuel 0 (D.1 0) (D.2.1 r.2.1) σ1 (h.1.mv p3 (by decide)) p2 hr hf0 trivial (by rw [p3.r (by decide)]; exact h.2.2.2.2.2.2.2.2.2.2.2.1) (by omega) (by have := sw_fuel_ge; omega) (by omega)
        have m2 := (p3.mono (T := px_scr) (by decide)).trans (q3.mono (by decide))
        have h57 : σ2.1 57 = σ.1 57 := by rw [(q3 57 (by decide)).1, (p3 57 (by decide)).1]
        have h49 : σ2.1 49 r.2.1 = nI (g_cr l P D r.2.1 (l 3 (2 * r.2.1 + 1)) r.1) := q2.2.2.2.2.2.2.1
        have hlt : g_cr l P D r.2.1 (l 3 (2 * r.2.1 + 1)) r.1 < 64 := g_cr_lt hg hd b2 hr.1
        refine un (fun c => q c && decide (g_cr l P D r.2.1 (l 3 (2 * r.2.1 + 1)) r.1 = r.2.2)) σ2 (h.mv m2 q5) (fun c d h1 h2 => by rw [h57]; exact hcf c d h1 h2) (fun c hc => ?_) ?_
        · unfold g_okr
          rw [t1, Bool.true_and, if_neg c2]
        · unfold S_X1_curiousBits_6 S_X1_curiousBits_129 S_X1_curiousBits_130 F_X2_goOn
          rw [h.2.2.2.2.2.1.1, if_neg (nI_ge hil (by omega)), e0, e1, e2, if_pos (pz_inb (by omega) (by omega)), if_pos (pz_inb (by omega) (by omega)), if_pos (pz_inb (by omega) (by omega)), px_most30 h.2.2.2.1.1 hd9]
          dsimp only [Option.bind]
          rw [nI_clamp (by omega), nI_clamp (by omega), nI_clamp (by omega), f1, f2, f3, if_pos (nI_le c1 (by omega)), if_neg (fun z => c2 (by rw [nI_eq (by omega) (by omega)] at z; exact z)), p1]
          dsimp only
          rw [show L_X2_goOn_3 sw_fuel σ1 46 (nI r.2.1) (nI r.1) 0 = _ from q1]
          dsimp only
          rw [if_pos (pz_inb (by omega) (by omega)), nI_clamp (by omega), h49, nI_1]
          by_cases c3 : g_cr l P D r.2.1 (l 3 (2 * r.2.1 + 1)) r.1 = r.2.2
          · rw [if_pos (by rw [c3]), decide_eq_true c3]
            congr 2
            exact g_bits_cong (fun i _ => (Bool.and_true _).symm)
          · rw [if_neg (fun z => c3 (by rw [nI_eq (by omega) (by omega)] at z; exact z)), decide_eq_false c3]
            rw [g_bits_0 (p := fun c => q c && false) (fun i _ => Bool.and_false _)]
            rfl
    · refine ⟨σ, ?_, h, hcf⟩
      have t1 : decide (D.1 0 + r.1 ≤ 999) = false := decide_eq_false (by omega)
      show S_X1_curiousBits_6 _ σ (nI s) (nI (g_bits q 10)) (nI i) = _
      unfold S_X1_curiousBits_6
      rw [h.2.2.2.2.2.1.1, if_neg (nI_ge hil (by omega)), e0, e1, e2, if_pos (pz_inb (by omega) (by omega)), if_pos (pz_inb (by omega) (by omega)), if_pos (pz_inb (by omega) (by omega)), px_most30 h.2.2.2.1.1 hd9]
      dsimp only [Option.bind]
      rw [nI_clamp (by omega), f1, if_neg (nI_ge (by omega) (by omega)), g_bits_0 (p := fun c => q c && (r :: F.drop (i + 1)).all (fun r => g_okr l P D s r c)) (fun c _ => by
        rw [List.all_cons]
        unfold g_okr
        rw [t1, Bool.false_and, Bool.false_and, Bool.and_false])]
      rfl
theorem px_cset {σ : sw_St} {s : Nat} {w : Nat} {l : Nat → Nat → Nat} {P : Nat → List Nat} {nm : g_N} {D : g_D} {U : List g_D} {F : List (Nat × Nat × Nat)} {T : List Nat} {sd : Nat} {rf : Nat → Int32} {ft : Int32 × Int32} {im : List Nat} (hG : RG l P nm D U F T sd im) (hs : s < l 0 2) (h : RX σ w l P nm D U F T sd rf ft im) : ∃ σ1 σ2, F_X1_fillCrimps σ (nI s) = some ((), σ1) ∧ F_X1_curiousBits σ1 (nI s) = some (nI (g_cs l P D F s), σ2) ∧ RX σ2 w l P nm D U F T sd rf ft im ∧ px_cf σ2 l P D s (min 30 (999 - D.1 0)) 10 := by
  have hd := hG.2.2.1
  have hd9 := hd.1
  have hfu := sw_fuel_ge
  have h16 := hG.2.2.2.2.1.1
  obtain ⟨σ1, p1, p2, p3⟩ := px_fc9 (most := min 30 (999 - D.1 0)) hG.1 hd hs (by omega) (by omega) 10 sw_fuel 0 σ h (fun c d h1 => by omega) (by omega) (by omega)
  obtain ⟨σ2, q1, q2, q3⟩ := px_cb hG hs F.length sw_fuel 0 (fun _ => true) σ1 p2 p3 (by omega) (by omega)
  refine ⟨σ1, σ2, ?_, ?_, q2, q3⟩
  · unfold F_X1_fillCrimps
    rw [px_most30 h.2.2.2.1.1 hd9]
    exact p1
  · unfold F_X1_curiousBits
    rw [show (1023 : Int32) = nI (g_bits (fun _ => true) 10) from by decide, show (0 : Int32) = nI 0 from rfl, q1]
    congr 3

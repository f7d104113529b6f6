/-! How curious one was: the reference. -/
theorem g_all_of (p : Nat → Bool) : ∀ (n k : Nat), (∀ i, k ≤ i → i < k + n → p i = true) → g_all p n k = true
  | 0, k, h => rfl
  | n + 1, k, h => by
    rw [g_all_s, h k (by omega) (by omega), Bool.true_and]
    exact g_all_of p n (k + 1) (fun i h1 h2 => h i (by omega) (by omega))
def g_asf (l : Nat → Nat → Nat) (P : Nat → List Nat) (D : g_D) (s c d : Nat) (r : Nat × Nat × Nat) : Bool := !decide (r.1 = d) || g_okr l P D s r c
theorem g_asf_all {l : Nat → Nat → Nat} {P : Nat → List Nat} {D : g_D} {F : List (Nat × Nat × Nat)} {s c : Nat} (h30 : ∀ x ∈ F, x.1 ≤ 30) : g_all (fun d => F.all (fun r => g_asf l P D s c d r)) 31 0 = F.all (fun r => g_okr l P D s r c) := by
  rw [Bool.eq_iff_iff]
  constructor
  · intro h
    rw [List.all_eq_true]
    intro r hr
    have h1 := g_all_at _ _ _ h r.1 (by omega) (by have := h30 r hr; omega)
    rw [List.all_eq_true] at h1
    have h2 := h1 r hr
    unfold g_asf at h2
    rw [decide_eq_true rfl] at h2
    exact h2
  · intro h
    refine g_all_of _ _ _ (fun d _ _ => ?_)
    rw [List.all_eq_true] at h ⊢
    intro r hr
    unfold g_asf
    rw [h r hr, Bool.or_true]
/-- the one whose curiosity is thought of -/
def g_cu (l : Nat → Nat → Nat) (s c t : Nat) : Nat := if t = s then c else l 3 (2 * t + 1)
theorem pm_iaf {τ : sw_St} {s c d : Nat} {l : Nat → Nat → Nat} {P : Nat → List Nat} {nm : g_N} {D : g_D} {U : List g_D} {F : List (Nat × Nat × Nat)} {T : List Nat} {sd : Nat} {im : List Nat} (hG : RG l P nm D U F T sd im) (hc : c ≤ 9) (hd30 : d ≤ 30) (hF : MF τ F) (h0 : τ.1 37 0 = nI (D.1 0 + d)) (hcr : ∀ t, t < l 0 2 → τ.1 37 (14 + 12 * t) = nI (g_cr l P D t (g_cu l s c t) d)) : ∀ (n fuel i : Nat), i + n = F.length → n < fuel → L_X11_isAsFelt_2 fuel τ (nI d) (nI i) = some (g_ok1 ((F.drop i).all (fun r => g_asf l P D s c d r)), τ)
  | 0, fuel + 1, i, hi, hf => by
    have h16 := hG.2.2.2.2.1.1
    show S_X11_isAsFelt_2 _ τ (nI d) (nI i) = _
    unfold S_X11_isAsFelt_2
    rw [hF.1, if_pos (nI_le (by omega) (by omega)), List.drop_eq_nil_of_le (by omega)]
    rfl
  | n + 1, fuel + 1, i, hi, hf => by
    have hg := hG.1
    have hd := hG.2.2.1
    have h6 := hg.2.2.1
    have h16 := hG.2.2.2.2.1.1
    have hd9 := hd.1
    have hil : i < F.length := by omega
    obtain ⟨f1, f2, f3⟩ := hF.2 i hil
    obtain ⟨b1, b2, b3⟩ := hG.2.2.2.2.1.2 _ (g_getD_mem (d := (0, 0, 0)) hil)
    have ih := pm_iaf hG hc hd30 hF h0 hcr n fuel (i + 1) (by omega) (by omega)
    have edr : F.drop i = F.getD i (0, 0, 0) :: F.drop (i + 1) := g_drp hil
    rw [edr, List.all_cons]
    generalize F.getD i (0, 0, 0) = r at f1 f2 f3 b1 b2 b3
    have e0 : (3 : Int32) * nI i = nI (3 * i) := by rw [show (3 : Int32) = nI 3 from rfl, pk_mul]
    have e1 : nI (3 * i) + 1 = nI (3 * i + 1) := nI_1 _
    have e2 : nI (3 * i) + 2 = nI (3 * i + 2) := nI_add _ 2
    have hlt : g_cr l P D r.2.1 (g_cu l s c r.2.1) d < 64 := g_cr_lt hg hd b2 (by
      unfold g_cu
      split
      · exact hc
      · exact (hd.2.2.2.1 r.2.1 b2).1.1)
    show S_X11_isAsFelt_2 _ τ (nI d) (nI i) = _
    unfold S_X11_isAsFelt_2 S_X11_isAsFelt_61 S_X11_isAsFelt_63
    rw [hF.1, if_neg (nI_ge hil (by omega)), e0, e1, e2, if_pos (pz_inb (by omega) (by omega)), nI_clamp (by omega), f1, nI_1]
    unfold g_asf at ih ⊢
    by_cases c1 : r.1 = d
    · rw [if_pos (by rw [c1]), decide_eq_true c1, Bool.not_true, Bool.false_or, h0]
      unfold g_okr
      by_cases c2 : D.1 0 + d ≤ 999
      · rw [if_neg (show ¬ (999 : Int32) < nI (D.1 0 + d) from nI_nlt (a := 999) (by omega) (by omega)), if_pos (pz_inb (by omega) (by omega)), nI_clamp (by omega), f2, pm_crimpOf (by omega)]
        dsimp only [Option.bind]
        rw [if_pos (pz_inb (by omega) (by omega)), nI_clamp (by omega), f3, hcr _ b2, decide_eq_true (show D.1 0 + r.1 ≤ 999 by omega), Bool.true_and, c1]
        by_cases c3 : g_cr l P D r.2.1 (g_cu l s c r.2.1) d = r.2.2
        · rw [if_pos (by rw [c3]), show decide (g_cr l P D r.2.1 (if r.2.1 = s then c else l 3 (2 * r.2.1 + 1)) d = r.2.2) = true from decide_eq_true c3, Bool.true_and]
          exact ih
        · rw [if_neg (fun z => c3 (by rw [nI_eq (by omega) (by omega)] at z; exact z)), show decide (g_cr l P D r.2.1 (if r.2.1 = s then c else l 3 (2 * r.2.1 + 1)) d = r.2.2) = false from decide_eq_false c3, Bool.false_and]
          rfl
      · rw [if_pos (show (999 : Int32) < nI (D.1 0 + d) from nI_lt (a := 999) (by omega) (by omega)), decide_eq_false (show ¬ D.1 0 + r.1 ≤ 999 by omega), Bool.false_and, Bool.false_and]
        rfl
    · rw [if_neg (fun z => c1 (by rw [nI_eq (by omega) (by omega)] at z; exact z)), decide_eq_false c1, Bool.not_false, Bool.true_or, Bool.true_and]
      exact ih
def pm_cf (τ : sw_St) (l : Nat → Nat → Nat) (P : Nat → List Nat) (D : g_D) (s n : Nat) : Prop := ∀ v e t, v < n → e ≤ 30 → t < l 0 2 → τ.1 45 (186 * v + 6 * e + t) = nI (g_cr l P D t (g_cu l s v t) e)
theorem pm_c61 {x2 x4 : Int32} {v d : Nat} {l : Nat → Nat → Nat} {P : Nat → List Nat} {cr : Nat → Nat} {c13 : sw_St → Int32 → Int32 → Option (Int32 × sw_St)} {c30 : sw_St → Int32 → Int32 → Int32 → Int32 → Option (Int32 × sw_St)} (hg : g_ld l P) (hv : v < 10) (hd : d ≤ 30) : ∀ (n fuel t : Nat) (τ : sw_St), pm_ld τ l P → (∀ t, t < l 0 2 → τ.1 37 (14 + 12 * t) = nI (cr t)) → t + n = l 0 2 → n < fuel →
    ∃ τ', L_X11_curiousSet_61 c13 c30 fuel τ x2 (nI v) x4 (nI d) (nI t) = (F_X11_dayGoes τ').bind (fun q2 => c30 q2.2 x2 (nI v) x4 (nI (d + 1))) ∧ pm_sm [45] [] τ τ' ∧ (∀ u, t ≤ u → u < l 0 2 → τ'.1 45 (186 * v + 6 * d + u) = nI (cr u)) ∧ ∀ i, i < 186 * v + 6 * d + t → τ'.1 45 i = τ.1 45 i
  | 0, fuel + 1, t, τ, hl, hc, ht, hf => by
    have h6 := hg.2.2.1
    refine ⟨τ, ?_, pm_sm.refl _ _ _, fun u h1 h2 => by omega, fun _ _ => rfl⟩
    show S_X11_curiousSet_61 c13 c30 _ τ x2 (nI v) x4 (nI d) (nI t) = _
    unfold S_X11_curiousSet_61 F_X11_sheepMany
    dsimp only [Option.bind_some]
    rw [hl.2.2.1, if_pos (nI_le (by omega) (by omega)), nI_1]
  | n + 1, fuel + 1, t, τ, hl, hc, ht, hf => by
    have h6 := hg.2.2.1
    have m1 : pm_sm [45] [] τ (sw_uI τ 45 (186 * v + 6 * d + t) (nI (cr t))) := (pm_sm.refl _ _ τ).I (by decide) (by decide) _ _
    obtain ⟨τ', p1, p2, p3, p4⟩ := pm_c61 (x2 := x2) (x4 := x4) (c13 := c13) (c30 := c30) hg hv hd n fuel (t + 1) _ (hl.mv m1 (by unfold pm_LS; decide)) (fun u hu => by rw [pz_Io (by decide)]; exact hc u hu) (by omega) (by omega)
    refine ⟨τ', ?_, m1.trans p2, fun u h1 h2 => ?_, fun i hi => by rw [p4 i (by omega), pz_Ik (by omega)]⟩
    · rw [← p1]
      show S_X11_curiousSet_61 c13 c30 _ τ x2 (nI v) x4 (nI d) (nI t) = _
      unfold S_X11_curiousSet_61 F_X11_sheepMany
      dsimp only [Option.bind_some]
      rw [hl.2.2.1, if_neg (nI_ge (by omega) (by omega)), pm_crimpOf (by omega)]
      dsimp only [Option.bind_some]
      rw [show (186 : Int32) * nI v + 6 * nI d + nI t = nI (186 * v + 6 * d + t) from by rw [show (186 : Int32) = nI 186 from rfl, show (6 : Int32) = nI 6 from rfl, pk_mul, pk_mul, nI_add, nI_add], if_pos (pz_inb (by omega) (by omega)), nI_clamp (by omega), hc t (by omega), nI_1]
    · by_cases e : u = t
      · rw [e, p4 _ (by omega), pz_Ie rfl rfl]
      · exact p3 u (by omega) h2
theorem g_cu_le {l : Nat → Nat → Nat} {P : Nat → List Nat} {D : g_D} {s c t : Nat} (hd : g_dk l D) (hc : c ≤ 9) (ht : t < l 0 2) : g_rk (g_cu l s c t) (D.2.1 t) ∧ D.2.1 t 0 < l 0 0 := by
  obtain ⟨h1, h2⟩ := hd.2.2.2.1 t ht
  refine ⟨g_rk_cur h1 ?_, h2⟩
  unfold g_cu
  split
  · exact hc
  · exact h1.1
/-- the days of one curiosity -/
theorem pm_c30 {s v : Nat} {x2 : Int32} {m τ1 : sw_St} {c13 : sw_St → Int32 → Int32 → Option (Int32 × sw_St)} {l : Nat → Nat → Nat} {P : Nat → List Nat} {nm : g_N} {D : g_D} {U : List g_D} {F : List (Nat × Nat × Nat)} {T : List Nat} {sd : Nat} {rf : Nat → Int32} {ft : Int32 × Int32} {im : List Nat} (hG : RG l P nm D U F T sd im) (hM : RM m l P nm D U F T sd rf ft im) (hs : s < l 0 2) (hv : v < 10) (r2 : ∀ j, j < 84 → τ1.1 38 j = m.1 37 j) (r3 : pm_sm [38] [58] m τ1) : ∀ (n fuel d : Nat) (ok : Bool) (τ : sw_St), pm_sm [37, 45, 73] [48, 52, 53, 54, 55, 56, 59, 101] τ1 τ → (∀ i, 84 ≤ i → τ.1 37 i = τ1.1 37 i) → pm_tv τ l P (fun k => (D.1 2).testBit k) (D.1 0 + d) (g_cu l s v) (fun t => g_go l P (fun k => (D.1 2).testBit k) (g_cu l s v t) t d (D.1 0) (D.2.1 t)) → pm_cf τ l P D s v → (∀ e t, e < d → t < l 0 2 → τ.1 45 (186 * v + 6 * e + t) = nI (g_cr l P D t (g_cu l s v t) e)) → d + n = 31 → n < fuel →
    ∃ τ', L_X11_curiousSet_30 c13 fuel τ x2 (nI v) (g_ok1 ok) (nI d) = c13 τ' (if (ok && g_all (fun e => F.all (fun r => g_asf l P D s v e r)) n d) = true then x2 ||| nI (2 ^ v) else x2) (nI (v + 1)) ∧ pm_sm [37, 45, 73] [48, 52, 53, 54, 55, 56, 59, 101] τ1 τ' ∧ τ'.1 37 = τ1.1 37 ∧ τ'.1 0 52 = τ.1 0 52 ∧ pm_cf τ' l P D s (v + 1)
  | 0, fuel + 1, d, ok, τ, h, h84, tv, hcf, hent, hdn, hf => by
    obtain ⟨τ4, s1, s2, s3, s4⟩ := pm_anew τ
    refine ⟨τ4, ?_, h.trans (s4.mono (by decide) (by decide)), ?_, s4.2.1 52 (by decide), fun v' e t h1 h2 h3 => ?_⟩
    · show S_X11_curiousSet_30 c13 _ τ x2 (nI v) (g_ok1 ok) (nI d) = _
      unfold S_X11_curiousSet_30 S_X11_curiousSet_126
      rw [if_pos (show (30 : Int32) < nI d from nI_lt (a := 30) (by omega) (by omega)), s1]
      dsimp only [Option.bind_some]
      rw [nI_1]
      show _ = c13 τ4 (if (ok && true) = true then _ else _) _
      cases ok
      · rw [if_pos (show g_ok1 false = 0 from rfl), if_neg (by decide)]
      · rw [if_neg (show ¬ g_ok1 true = 0 from pz_10), if_pos (by decide), pz_shl (by omega)]
    · funext i
      by_cases hi : i < 84
      · rw [s2 i hi, h.r (by decide) (by decide), r2 i hi, r3.r (by decide) (by decide)]
      · rw [s3 i (by omega), h84 i (by omega)]
    · rw [s4.r (by decide) (by decide)]
      by_cases z : v' = v
      · rw [z]; exact hent e t (by omega) h3
      · exact hcf v' e t (by omega) h2 h3
  | n + 1, fuel + 1, d, ok, τ, h, h84, tv, hcf, hent, hdn, hf => by
    have hg := hG.1
    have hdk := hG.2.2.1
    have h6 := hg.2.2.1
    have hd9 := hdk.1
    have hfu := sw_fuel_ge
    have hcr : ∀ t, t < l 0 2 → τ.1 37 (14 + 12 * t) = nI (g_cr l P D t (g_cu l s v t) d) := fun t ht => by
      have := (tv.2.2.1 t ht).2.2.1 2 (by omega)
      rw [show 12 + 12 * t + 2 = 14 + 12 * t by omega] at this
      exact this
    have hs56 : ∀ ok' : Bool, ∃ τ', S_X11_curiousSet_56 c13 (fun σ x2 x3 x4 x5 => L_X11_curiousSet_30 c13 fuel σ x2 x3 x4 x5) τ x2 (nI v) (nI d) (g_ok1 ok') = c13 τ' (if (ok' && g_all (fun e => F.all (fun r => g_asf l P D s v e r)) n (d + 1)) = true then x2 ||| nI (2 ^ v) else x2) (nI (v + 1)) ∧ pm_sm [37, 45, 73] [48, 52, 53, 54, 55, 56, 59, 101] τ1 τ' ∧ τ'.1 37 = τ1.1 37 ∧ τ'.1 0 52 = τ.1 0 52 ∧ pm_cf τ' l P D s (v + 1) := fun ok' => by
      obtain ⟨τ2, p1, p2, p3, p4⟩ := pm_c61 (x2 := x2) (x4 := g_ok1 ok') (d := d) (c13 := c13) (c30 := fun σ x2 x3 x4 x5 => L_X11_curiousSet_30 c13 fuel σ x2 x3 x4 x5) (cr := fun t => g_cr l P D t (g_cu l s v t) d) hg hv (by omega) (l 0 2) sw_fuel 0 τ tv.1 hcr (by omega) (by omega)
      have tv2 : pm_tv τ2 l P (fun k => (D.1 2).testBit k) (D.1 0 + d) (g_cu l s v) (fun t => g_go l P (fun k => (D.1 2).testBit k) (g_cu l s v t) t d (D.1 0) (D.2.1 t)) :=
        ⟨tv.1.mv p2 (by unfold pm_LS; decide), fun k hk => by rw [p2.r (by decide) (by decide)]; exact tv.2.1 k hk, fun t ht => (tv.2.2.1 t ht).mv p2 (by decide) (by decide), by rw [p2.2.1 58 (by decide)]; exact tv.2.2.2⟩
      obtain ⟨τ3, q1, q2, q3, q4, q5⟩ := pm_tday hg (by omega) tv2 (fun t ht => g_go_rk hg d (D.1 0) _ (g_cu_le (P := P) hdk (by omega) ht).1 (g_cu_le (P := P) (s := s) (c := v) hdk (by omega) ht).2)
      have m3 := (h.trans (p2.mono (by decide) (by decide))).trans (q3.mono (by decide) (by decide))
      have r45 : ∀ i, τ3.1 45 i = τ2.1 45 i := fun i => q3.r (by decide) (by decide) i
      rw [show (fun t => g_step l P (fun k => (D.1 2).testBit k) (D.1 0 + d) (g_cu l s v t) (g_go l P (fun k => (D.1 2).testBit k) (g_cu l s v t) t d (D.1 0) (D.2.1 t)) t) = (fun t => g_go l P (fun k => (D.1 2).testBit k) (g_cu l s v t) t (d + 1) (D.1 0) (D.2.1 t)) from funext fun t => (g_go_snoc d (D.1 0) (D.2.1 t)).symm] at q2
      obtain ⟨τ4, u1, u2, u3, u4, u5⟩ := pm_c30 (x2 := x2) (c13 := c13) hG hM hs hv r2 r3 n fuel (d + 1) ok' τ3 m3 (fun i hi => by rw [q4 i hi, p2.r (by decide) (by decide), h84 i hi]) q2 (fun v' e t h1 h2 h3 => by rw [r45, p4 _ (by omega)]; exact hcf v' e t h1 h2 h3) (fun e t h1 h3 => by
        rw [r45]
        by_cases z : e = d
        · rw [z]; exact p3 t (by omega) h3
        · rw [p4 _ (by omega)]; exact hent e t (by omega) h3) (by omega) (by omega)
      refine ⟨τ4, ?_, u2, u3, by rw [u4, q3.2.1 52 (by decide), p2.2.1 52 (by decide)], u5⟩
      unfold S_X11_curiousSet_56
      rw [show (0 : Int32) = nI 0 from rfl, p1, q1]
      exact u1
    have hMF : MF τ F := hM.2.2.2.2.1.mv (by rw [h.2.1 63 (by decide), r3.2.1 63 (by decide)]) (by rw [(h.1 44 (by decide) (by decide)).1, (r3.1 44 (by decide) (by decide)).1])
    have e30 : ¬ (30 : Int32) < nI d := nI_nlt (a := 30) (by omega) (by omega)
    cases ok with
    | false =>
      obtain ⟨τ', y1, y2⟩ := hs56 false
      refine ⟨τ', ?_, y2⟩
      rw [Bool.false_and] at y1 ⊢
      rw [← y1]
      show S_X11_curiousSet_30 c13 _ τ x2 (nI v) (g_ok1 false) (nI d) = _
      unfold S_X11_curiousSet_30 S_X11_curiousSet_55
      rw [if_neg e30, if_pos (show g_ok1 false = 0 from rfl)]
      rfl
    | true =>
      have ei : F_X11_isAsFelt τ (nI d) = some (g_ok1 (F.all (fun r => g_asf l P D s v d r)), τ) := pm_iaf hG (show v ≤ 9 by omega) (by omega) hMF (tv.2.2.1 0 (by omega)).2.1 hcr F.length sw_fuel 0 (by omega) (by have := hG.2.2.2.2.1.1; omega)
      obtain ⟨τ', y1, y2⟩ := hs56 (F.all (fun r => g_asf l P D s v d r))
      refine ⟨τ', ?_, y2⟩
      rw [g_all_s, Bool.true_and, ← y1]
      show S_X11_curiousSet_30 c13 _ τ x2 (nI v) (g_ok1 true) (nI d) = _
      unfold S_X11_curiousSet_30 S_X11_curiousSet_55
      rw [if_neg e30, if_neg (show ¬ g_ok1 true = 0 from pz_10), ei]
      dsimp only [Option.bind_some]
      cases F.all (fun r => g_asf l P D s v d r)
      · rw [if_pos (show g_ok1 false = 0 from rfl)]
        rfl
      · rw [if_neg (show ¬ g_ok1 true = 0 from pz_10)]
        rfl
theorem pm_c13 {s : Nat} {m τ1 : sw_St} {l : Nat → Nat → Nat} {P : Nat → List Nat} {nm : g_N} {D : g_D} {U : List g_D} {F : List (Nat × Nat × Nat)} {T : List Nat} {sd : Nat} {rf : Nat → Int32} {ft : Int32 × Int32} {im : List Nat} (hG : RG l P nm D U F T sd im) (hM : RM m l P nm D U F T sd rf ft im) (hs : s < l 0 2) (r2 : ∀ j, j < 84 → τ1.1 38 j = m.1 37 j) (r3 : pm_sm [38] [58] m τ1) (r4 : τ1.1 0 58 = 1) : ∀ (n fuel v : Nat) (τ : sw_St), pm_sm [37, 45, 73] [48, 52, 53, 54, 55, 56, 59, 101] τ1 τ → τ.1 37 = τ1.1 37 → τ.1 0 52 = nI s → pm_cf τ l P D s v → v + n = 10 → n < fuel →
    ∃ τ', L_X11_curiousSet_13 fuel τ (nI (g_bits (fun c => F.all (fun r => g_okr l P D s r c)) v)) (nI v) = some (nI (g_cs l P D F s), τ') ∧ RM τ' l P nm D U F T sd rf ft im ∧ pm_cf τ' l P D s 10
  | 0, fuel + 1, v, τ, h, h37, h52, hcf, hv, hf => by
    obtain ⟨τ3, u1, u2, u3, u4, u5, u6⟩ := pm_back τ
    refine ⟨τ3, ?_, hM.back r2 r3 h (by decide) (by decide) (fun i _ => by rw [h37]) u2 u3 u4 u5 u6, fun v' e t h1 h2 h3 => by rw [u4.r (by decide) (by decide)]; exact hcf v' e t (by omega) h2 h3⟩
    show S_X11_curiousSet_13 _ τ _ (nI v) = _
    unfold S_X11_curiousSet_13
    rw [if_pos (show (9 : Int32) < nI v from nI_lt (a := 9) (by omega) (by omega)), u1]
    dsimp only [Option.bind_some]
    rw [show v = 10 by omega]
    rfl
  | n + 1, fuel + 1, v, τ, h, h37, h52, hcf, hv, hf => by
    have hg := hG.1
    have hdk := hG.2.2.1
    have h6 := hg.2.2.1
    have hfu := sw_fuel_ge
    have m1 : pm_sm [37, 45, 73] [48, 52, 53, 54, 55, 56, 59, 101] τ1 (sw_uI τ 0 53 (nI v)) := h.K (by decide) _
    have tv0 := hM.tv hg r3 r4
    have tv : pm_tv (sw_uI τ 0 53 (nI v)) l P (fun k => (D.1 2).testBit k) (D.1 0 + 0) (g_cu l s v) (fun t => g_go l P (fun k => (D.1 2).testBit k) (g_cu l s v t) t 0 (D.1 0) (D.2.1 t)) := by
      refine ⟨tv0.1.mv m1 (by unfold pm_LS; decide), fun k hk => by rw [pz_Io (by decide), h37]; exact tv0.2.1 k hk, fun t ht => ?_, by rw [m1.2.1 58 (by decide)]; exact r4⟩
      obtain ⟨a1, a2, a3, a4, a5⟩ := tv0.2.2.1 t ht
      refine ⟨a1, by rw [pz_Io (by decide), h37]; exact a2, fun j hj => by rw [pz_Io (by decide), h37]; exact a3 j hj, ?_, fun f hf => by rw [m1.r (by decide) (by decide)]; exact a5 f hf⟩
      rw [pz_Ik (by decide), h52, pz_Ie rfl rfl, pz_Io (by decide), h.r (by decide) (by decide)]
      unfold g_cu
      by_cases e : t = s
      · rw [if_pos (by rw [e]), if_pos e]
      · rw [if_neg (fun z => e (by rw [nI_eq (by omega) (by omega)] at z; exact z)), if_neg e]
        rw [r3.2.1 52 (by decide), hM.2.2.2.2.2.2.2.2.2.2.1.1, if_neg (pz_nm1 (by omega))] at a4
        exact a4
    obtain ⟨τ2, p1, p2, p3, p4, p5⟩ := pm_c30 (x2 := nI (g_bits (fun c => F.all (fun r => g_okr l P D s r c)) v)) (c13 := fun σ x2 x3 => L_X11_curiousSet_13 fuel σ x2 x3) hG hM hs (show v < 10 by omega) r2 r3 31 sw_fuel 0 true _ m1 (fun i _ => by rw [pz_Io (by decide), h37]) tv (fun v' e t h1 h2 h3 => by rw [pz_Io (by decide)]; exact hcf v' e t h1 h2 h3) (fun e t h1 => by omega) (by omega) (by omega)
    obtain ⟨τ3, q1, q2, q3⟩ := pm_c13 hG hM hs r2 r3 r4 n fuel (v + 1) τ2 p2 p3 (by rw [p4, pz_Ik (by decide)]; exact h52) p5 (by omega) (by omega)
    refine ⟨τ3, ?_, q2, q3⟩
    show S_X11_curiousSet_13 _ τ _ (nI v) = _
    unfold S_X11_curiousSet_13
    rw [if_neg (show ¬ (9 : Int32) < nI v from nI_nlt (a := 9) (by omega) (by omega)), show L_X11_curiousSet_30 (fun σ x2 x3 => L_X11_curiousSet_13 fuel σ x2 x3) sw_fuel (sw_uI τ 0 53 (nI v)) (nI (g_bits (fun c => F.all (fun r => g_okr l P D s r c)) v)) (nI v) 1 0 = _ from p1, Bool.true_and, g_asf_all (fun x hx => (hG.2.2.2.2.1.2 x hx).1), ← q1]
    (try dsimp only)
    rw [show g_bits (fun c => F.all (fun r => g_okr l P D s r c)) (v + 1) = if F.all (fun r => g_okr l P D s r v) = true then 2 ^ v + g_bits (fun c => F.all (fun r => g_okr l P D s r c)) v else g_bits (fun c => F.all (fun r => g_okr l P D s r c)) v from rfl]
    by_cases e : F.all (fun r => g_okr l P D s r v) = true
    · rw [if_pos e, if_pos e, px_or (by omega)]
    · rw [if_neg e, if_neg e]
theorem pm_cset {m : sw_St} {s : Nat} {l : Nat → Nat → Nat} {P : Nat → List Nat} {nm : g_N} {D : g_D} {U : List g_D} {F : List (Nat × Nat × Nat)} {T : List Nat} {sd : Nat} {rf : Nat → Int32} {ft : Int32 × Int32} {im : List Nat} (hG : RG l P nm D U F T sd im) (hs : s < l 0 2) (hM : RM m l P nm D U F T sd rf ft im) : ∃ τ', F_X11_curiousSet m (nI s) = some (nI (g_cs l P D F s), τ') ∧ RM τ' l P nm D U F T sd rf ft im ∧ pm_cf τ' l P D s 10 := by
  obtain ⟨τ1, r1, r2, r3, r4⟩ := pm_aside m
  obtain ⟨τ2, p1, p2, p3⟩ := pm_c13 hG hM hs r2 r3 r4 10 sw_fuel 0 (sw_uI τ1 0 52 (nI s)) ((pm_sm.refl _ _ τ1).K (by decide) _) (by funext i; rw [pz_Io (by decide)]) (pz_Ie rfl rfl) (fun v e t h1 => by omega) (by omega) (by have := sw_fuel_ge; omega)
  refine ⟨τ2, ?_, p2, p3⟩
  unfold F_X11_curiousSet
  rw [r1]
  exact p1
theorem op_23 : ll_23 RR := by
  intro x m hR a
  obtain ⟨w, l, P, nm, D, U, F, T, sd, rf, ft, im, hG, hX, hM⟩ := hR
  have hR : RR x m := ⟨w, l, P, nm, D, U, F, T, sd, rf, ft, im, hG, hX, hM⟩
  unfold F_X10_curious F_X11_curious S_X11_curious_17
  rw [px_isSheep hG.1 hX.1, pm_isSheep hG.1 hM.1]
  dsimp only [Option.bind_some]
  by_cases h : g_in a (l 0 2) = true
  · obtain ⟨s, hs, rfl⟩ := g_in_of h
    obtain ⟨σ1, σ2, p1, p2, p3, p4⟩ := px_cset hG hs hX
    obtain ⟨τ2, q1, q2, q3⟩ := pm_cset hG hs hM
    rw [if_pos h, if_neg pz_10, if_neg pz_10, p1]
    dsimp only [Option.bind_some]
    rw [p2, q1]
    exact ⟨_, σ2, τ2, rfl, rfl, w, l, P, nm, D, U, F, T, sd, rf, ft, im, hG, p3, q2⟩
  · rw [if_neg h, if_pos rfl, if_pos rfl]
    exact ⟨-1, x, m, rfl, rfl, hR⟩

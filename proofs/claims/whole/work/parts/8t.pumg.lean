/-! Fields, gaps, sheep: the reference. -/
noncomputable def pm_wF (y : Int64) (x : Int32) (τ : sw_St) : Option (Unit × sw_St) := if (τ.1 0 5) = 0 then (if sw_inb (τ.1 28 0) 32 = true then (if sw_inb (τ.1 28 0) 16 = true then (some ((), (sw_uI (sw_uI (sw_uL τ 29 ((τ.1 28 0).toNatClampNeg) y) 30 ((τ.1 28 0).toNatClampNeg) x) 28 0 ((τ.1 28 0) + 1)))) else none) else none) else (some ((), τ))
theorem pm_wFD {u : g_U} {y : Int64} {x : Int32} : pm_dd u (pm_wF y x) := fun τ hd => by
  unfold pm_wF
  rw [if_neg hd.1]
theorem pm_wF_ok {τ : sw_St} {t : Nat → Nat} {N b x : Nat} {u : g_U} {v : List Nat} (h8 : u.1 0 0 < 8) (hs : pm_ps τ t N b) (hM : pu_M τ u b) : ∃ τ', pm_wF (lN (g_nr v)) (nI x) τ = some ((), τ') ∧ pm_ps τ' t N b ∧ pu_M τ' (u_f u v x) b ∧ pm_uf pm_UK τ τ' := by
  obtain ⟨⟨a1, a2, a3, a4⟩, b1, b2, b3, b4, b5, b6, n, c1, c2, c3⟩ := hM
  obtain ⟨e1, e2, e3, e4, e5⟩ := u_f_el (u := u) (v := v) (x := x)
  have m : pm_uf pm_UK τ (sw_uI (sw_uI (sw_uL τ 29 (u.1 0 0) (lN (g_nr v))) 30 (u.1 0 0) (nI x)) 28 0 (nI (u.1 0 0 + 1))) := (((pm_uf.refl _ τ).L (by decide) (by unfold pm_kp; omega) _).I (by decide) (by unfold pm_kp; omega) _).I (by decide) (by unfold pm_kp; omega) _
  have r : ∀ o j, (o ≠ 28 ∨ j ≠ 0) → o ≠ 30 → (sw_uI (sw_uI (sw_uL τ 29 (u.1 0 0) (lN (g_nr v))) 30 (u.1 0 0) (nI x)) 28 0 (nI (u.1 0 0 + 1))).1 o j = τ.1 o j := fun o j h1 h2 => by
    rw [pz_I, if_neg (by omega), pz_Io h2]
    rfl
  have q28 : (sw_uI (sw_uI (sw_uL τ 29 (u.1 0 0) (lN (g_nr v))) 30 (u.1 0 0) (nI x)) 28 0 (nI (u.1 0 0 + 1))).1 28 0 = nI (u.1 0 0 + 1) := pz_Ie rfl rfl
  have r30 : ∀ f, (sw_uI (sw_uI (sw_uL τ 29 (u.1 0 0) (lN (g_nr v))) 30 (u.1 0 0) (nI x)) 28 0 (nI (u.1 0 0 + 1))).1 30 f = if f = u.1 0 0 then nI x else τ.1 30 f := fun f => by
    rw [pz_Io (by decide)]
    by_cases c : f = u.1 0 0
    · rw [if_pos c, pz_Ie rfl c]
    · rw [if_neg c, pz_Ik c]
      rfl
  have r29 : ∀ f, (sw_uI (sw_uI (sw_uL τ 29 (u.1 0 0) (lN (g_nr v))) 30 (u.1 0 0) (nI x)) 28 0 (nI (u.1 0 0 + 1))).2.1 29 f = if f = u.1 0 0 then lN (g_nr v) else τ.2.1 29 f := fun f => by
    show (sw_uL τ 29 (u.1 0 0) (lN (g_nr v))).2.1 29 f = _
    by_cases c : f = u.1 0 0
    · rw [if_pos c, pz_Le rfl c]
    · rw [if_neg c, pz_Lk c]
  refine ⟨_, ?_, hs.mvW m (r 0 2 (by decide) (by decide)) (r 0 4 (by decide) (by decide)) (r 0 5 (by decide) (by decide)) (r 0 6 (by decide) (by decide)), ?_, m⟩
  · unfold pm_wF
    rw [if_pos hs.2.2.1, a1, if_pos (pz_inb (by omega) (by omega)), if_pos (pz_inb (by omega) (by omega)), nI_clamp (by omega), nI_1]
  · generalize hg2 : sw_uI (sw_uI (sw_uL τ 29 (u.1 0 0) (lN (g_nr v))) 30 (u.1 0 0) (nI x)) 28 0 (nI (u.1 0 0 + 1)) = τ2 at m r q28 r30 r29
    refine ⟨⟨by rw [e1]; exact q28, by rw [r _ _ (by decide) (by decide), e2 0 2 (by decide) (by decide)]; exact a2, fun f hf => ?_, fun s hs => ?_⟩, by rw [r _ _ (by decide) (by decide), e2 0 1 (by decide) (by decide)]; exact b1, by rw [r _ _ (by decide) (by decide), e2 0 3 (by decide) (by decide)]; exact b2, fun f hf => ?_, fun j hj => ?_, fun j hj => ?_, fun k hk => ?_, n, by rw [r _ _ (by decide) (by decide)]; exact c1, c2, fun i hi => ?_⟩
    · rw [r29, e5]
      rw [e1] at hf
      by_cases c : f = u.1 0 0
      · rw [if_pos c, if_pos c]
      · rw [if_neg c, if_neg c]
        exact a3 f (by omega)
    · rw [e2 0 2 (by decide) (by decide)] at hs
      rw [r29, if_neg (by omega), e4]
      exact a4 s hs
    · rw [r30, e3]
      rw [e1] at hf
      by_cases c : f = u.1 0 0
      · rw [if_pos c, if_pos c]
      · rw [if_neg c, if_neg c]
        exact b3 f (by omega)
    · rw [e2 0 1 (by decide) (by decide)] at hj
      rw [r _ _ (by omega) (by decide), e2 2 _ (by decide) (Or.inl (by decide))]
      exact b4 j hj
    · rw [e2 0 2 (by decide) (by decide)] at hj
      rw [r _ _ (by omega) (by decide), e2 3 _ (by decide) (Or.inl (by decide))]
      exact b5 j hj
    · rw [e2 0 1 (by decide) (by decide)] at hk
      rw [r _ _ (by omega) (by decide)]
      exact b6 k hk
    · rw [r _ _ (by omega) (by decide), r _ _ (by omega) (by decide)]
      rcases c3 i hi with y | ⟨y1, a, y2, y3, y4, y5⟩
      · exact Or.inl y
      · exact Or.inr ⟨y1, a, y2, y3, y4, fun k hk => by rw [r _ _ (by omega) (by decide)]; exact y5 k hk⟩
theorem pm_ufd {t : Nat → Nat} {N b : Nat} {u : g_U} (hu : pu_ok u) (ht : ∀ i, t i < 256) (hN : N ≤ 1600) (hb : b ≤ N) : pm_uc t N u (fun τ => F_X11_fieldTold τ (nI (tk_s t N b))) (tk_e t N b) (pu_field t N u b) := by
  have l8 := hu.1.1
  have hes := tk_e_sp t hb
  unfold pu_field
  by_cases c : u.1 0 0 < 8
  · rw [if_pos c]
    refine pm_uc.cg (g := fun τ => (F_X11_newName τ).bind fun q2 => (F_X11_asks q2.2 4).bind fun q3 => (F_X11_number q3.2 (nI 0) 9).bind fun q4 => pm_wF q2.1 q4.1 q4.2) (fun τ hs hM => ?_) ?_
    · have := (pm_full (τ := τ) (r := 0) (n := u.1 0 0) (lim := 8) (pl := tk_s t N b) hs.2.2.1 (by omega) hM.1.1 (by omega) (by omega)).1 (by omega)
      unfold F_X11_fieldTold
      rw [show F_X11_isFull τ 0 8 (nI (tk_s t N b)) = _ from this]
      dsimp only [Option.bind_some]
      rw [if_pos rfl]
      rfl
    · refine pm_uc.nw (g := fun y τ => (F_X11_asks τ 4).bind fun q3 => (F_X11_number q3.2 (nI 0) 9).bind fun q4 => pm_wF y q4.1 q4.2) hu ht hN hes.2.1 (fun y => pm_dd.ex (g := fun τ => (F_X11_number τ (nI 0) 9).bind fun q4 => pm_wF y q4.1 q4.2) (pm_dd.nu (fun x => pm_wFD))) (fun r1 hr1 f1 f2 f3 => ?_)
      have hes1 := tk_e_sp t f3
      refine pm_uc.ex (x := (4, 257)) (g := fun τ => (F_X11_number τ (nI 0) 9).bind fun q4 => pm_wF (lN (g_nr r1.1)) q4.1 q4.2) ht hN f3 (by decide) (pm_dd.nu (fun x => pm_wFD)) ?_
      refine pm_uc.nu (lo := 0) (lim := 10) (x2 := 9) (g := fun x τ => pm_wF (lN (g_nr r1.1)) x τ) ht hN hes1.2.1 (by decide) (by decide) (fun x => pm_wFD) (fun r3 hr3 k1 k2 k3 k4 => ?_)
      refine fun τ hs hM => ⟨fun q hq => ?_, fun e he => (by cases he)⟩
      rw [← Except.ok.inj hq]
      exact pm_wF_ok c hs hM
  · rw [if_neg c]
    refine fun τ hs hM => ⟨fun q hq => (by cases hq), fun e he => ?_⟩
    rw [← Except.error.inj he]
    obtain ⟨τ', p1, p2, p3⟩ := (pm_full (τ := τ) (r := 0) (n := u.1 0 0) (lim := 8) (pl := tk_s t N b) hs.2.2.1 (by omega) hM.1.1 (by omega) (by omega)).2 (by omega)
    refine ⟨τ', ?_, p2, p3.uf (by simp) (by decide), (by omega : 0 < 5), (by omega : 5 < 100)⟩
    (try dsimp only)
    unfold F_X11_fieldTold
    rw [show F_X11_isFull τ 0 8 (nI (tk_s t N b)) = _ from p1]
    dsimp only [Option.bind_some]
    rw [if_neg pz_10]
/-! a gap -/
noncomputable def pm_wG (x2 x4 x6 : Int32) (τ : sw_St) : Option (Unit × sw_St) := if (τ.1 0 5) = 0 then (if sw_inb (3 * (τ.1 28 2)) 60 = true then (if sw_inb ((3 * (τ.1 28 2)) + 1) 60 = true then (if sw_inb ((3 * (τ.1 28 2)) + 2) 60 = true then (if sw_inb (τ.1 28 2) 10 = true then (some ((), (sw_uI (sw_uI (sw_uI (sw_uI (sw_uI τ 31 ((3 * (τ.1 28 2)).toNatClampNeg) x2) 31 (((3 * (τ.1 28 2)) + 1).toNatClampNeg) x4) 31 (((3 * (τ.1 28 2)) + 2).toNatClampNeg) x6) 32 ((τ.1 28 2).toNatClampNeg) 1) 28 2 ((τ.1 28 2) + 1)))) else none) else none) else none) else none) else (some ((), τ))
theorem pm_wGD {u : g_U} {x y z : Int32} : pm_dd u (pm_wG x y z) := fun τ hd => by
  unfold pm_wG
  rw [if_neg hd.1]
theorem pm_wG_ok {τ : sw_St} {t : Nat → Nat} {N b x y z : Nat} {u : g_U} (h10 : u.1 0 1 < 10) (hs : pm_ps τ t N b) (hM : pu_M τ u b) : ∃ τ', pm_wG (nI x) (nI y) (nI z) τ = some ((), τ') ∧ pm_ps τ' t N b ∧ pu_M τ' (u_g u x y z) b ∧ pm_uf pm_UK τ τ' := by
  obtain ⟨⟨a1, a2, a3, a4⟩, b1, b2, b3, b4, b5, b6, n, c1, c2, c3⟩ := hM
  obtain ⟨e1, e2, e3, e4, e5, e6⟩ := u_g_el (u := u) (a := x) (c := y) (m := z)
  have m : pm_uf pm_UK τ (sw_uI (sw_uI (sw_uI (sw_uI (sw_uI τ 31 (3 * u.1 0 1) (nI x)) 31 (3 * u.1 0 1 + 1) (nI y)) 31 (3 * u.1 0 1 + 2) (nI z)) 32 (u.1 0 1) 1) 28 2 (nI (u.1 0 1 + 1))) := (((((pm_uf.refl _ τ).I (by decide) (by unfold pm_kp; omega) _).I (by decide) (by unfold pm_kp; omega) _).I (by decide) (by unfold pm_kp; omega) _).I (by decide) (by unfold pm_kp; omega) _).I (by decide) (by unfold pm_kp; omega) _
  have r : ∀ o j, (o ≠ 28 ∨ j ≠ 2) → o ≠ 31 → o ≠ 32 → (sw_uI (sw_uI (sw_uI (sw_uI (sw_uI τ 31 (3 * u.1 0 1) (nI x)) 31 (3 * u.1 0 1 + 1) (nI y)) 31 (3 * u.1 0 1 + 2) (nI z)) 32 (u.1 0 1) 1) 28 2 (nI (u.1 0 1 + 1))).1 o j = τ.1 o j := fun o j h1 h2 h3 => by
    rw [pz_I, if_neg (by omega), pz_Io h3, pz_Io h2, pz_Io h2, pz_Io h2]
  have q28 : (sw_uI (sw_uI (sw_uI (sw_uI (sw_uI τ 31 (3 * u.1 0 1) (nI x)) 31 (3 * u.1 0 1 + 1) (nI y)) 31 (3 * u.1 0 1 + 2) (nI z)) 32 (u.1 0 1) 1) 28 2 (nI (u.1 0 1 + 1))).1 28 2 = nI (u.1 0 1 + 1) := pz_Ie rfl rfl
  have r32 : ∀ f, (sw_uI (sw_uI (sw_uI (sw_uI (sw_uI τ 31 (3 * u.1 0 1) (nI x)) 31 (3 * u.1 0 1 + 1) (nI y)) 31 (3 * u.1 0 1 + 2) (nI z)) 32 (u.1 0 1) 1) 28 2 (nI (u.1 0 1 + 1))).1 32 f = if f = u.1 0 1 then 1 else τ.1 32 f := fun f => by
    rw [pz_Io (by decide)]
    by_cases c : f = u.1 0 1
    · rw [if_pos c, pz_Ie rfl c]
    · rw [if_neg c, pz_Ik c, pz_Io (by decide), pz_Io (by decide), pz_Io (by decide)]
  have r31 : ∀ j, j < 3 * u.1 0 1 → (sw_uI (sw_uI (sw_uI (sw_uI (sw_uI τ 31 (3 * u.1 0 1) (nI x)) 31 (3 * u.1 0 1 + 1) (nI y)) 31 (3 * u.1 0 1 + 2) (nI z)) 32 (u.1 0 1) 1) 28 2 (nI (u.1 0 1 + 1))).1 31 j = τ.1 31 j := fun j hj => by
    rw [pz_Io (by decide), pz_Io (by decide), pz_Ik (by omega), pz_Ik (by omega), pz_Ik (by omega)]
  have q31a : (sw_uI (sw_uI (sw_uI (sw_uI (sw_uI τ 31 (3 * u.1 0 1) (nI x)) 31 (3 * u.1 0 1 + 1) (nI y)) 31 (3 * u.1 0 1 + 2) (nI z)) 32 (u.1 0 1) 1) 28 2 (nI (u.1 0 1 + 1))).1 31 (3 * u.1 0 1) = nI x := by
    rw [pz_Io (by decide), pz_Io (by decide), pz_Ik (by omega), pz_Ik (by omega), pz_Ie rfl rfl]
  have q31b : (sw_uI (sw_uI (sw_uI (sw_uI (sw_uI τ 31 (3 * u.1 0 1) (nI x)) 31 (3 * u.1 0 1 + 1) (nI y)) 31 (3 * u.1 0 1 + 2) (nI z)) 32 (u.1 0 1) 1) 28 2 (nI (u.1 0 1 + 1))).1 31 (3 * u.1 0 1 + 1) = nI y := by
    rw [pz_Io (by decide), pz_Io (by decide), pz_Ik (by omega), pz_Ie rfl rfl]
  have q31c : (sw_uI (sw_uI (sw_uI (sw_uI (sw_uI τ 31 (3 * u.1 0 1) (nI x)) 31 (3 * u.1 0 1 + 1) (nI y)) 31 (3 * u.1 0 1 + 2) (nI z)) 32 (u.1 0 1) 1) 28 2 (nI (u.1 0 1 + 1))).1 31 (3 * u.1 0 1 + 2) = nI z := by
    rw [pz_Io (by decide), pz_Io (by decide), pz_Ie rfl rfl]
  have r29 : (sw_uI (sw_uI (sw_uI (sw_uI (sw_uI τ 31 (3 * u.1 0 1) (nI x)) 31 (3 * u.1 0 1 + 1) (nI y)) 31 (3 * u.1 0 1 + 2) (nI z)) 32 (u.1 0 1) 1) 28 2 (nI (u.1 0 1 + 1))).2.1 29 = τ.2.1 29 := rfl
  refine ⟨_, ?_, hs.mvW m (r 0 2 (by decide) (by decide) (by decide)) (r 0 4 (by decide) (by decide) (by decide)) (r 0 5 (by decide) (by decide) (by decide)) (r 0 6 (by decide) (by decide) (by decide)), ?_, m⟩
  · unfold pm_wG
    rw [if_pos hs.2.2.1, b1, show (3 : Int32) * nI (u.1 0 1) = nI (3 * u.1 0 1) from pk_mul 3 _, show nI (3 * u.1 0 1) + 1 = nI (3 * u.1 0 1 + 1) from nI_add _ 1, show nI (3 * u.1 0 1) + 2 = nI (3 * u.1 0 1 + 2) from nI_add _ 2, if_pos (pz_inb (by omega) (by omega)), if_pos (pz_inb (by omega) (by omega)), if_pos (pz_inb (by omega) (by omega)), if_pos (pz_inb (by omega) (by omega)), nI_clamp (show 3 * u.1 0 1 < 2 ^ 31 by omega), nI_clamp (show 3 * u.1 0 1 + 1 < 2 ^ 31 by omega), nI_clamp (show 3 * u.1 0 1 + 2 < 2 ^ 31 by omega), nI_clamp (show u.1 0 1 < 2 ^ 31 by omega), nI_1]
  · generalize hg2 : sw_uI (sw_uI (sw_uI (sw_uI (sw_uI τ 31 (3 * u.1 0 1) (nI x)) 31 (3 * u.1 0 1 + 1) (nI y)) 31 (3 * u.1 0 1 + 2) (nI z)) 32 (u.1 0 1) 1) 28 2 (nI (u.1 0 1 + 1)) = τ2 at m r q28 r32 r31 q31a q31b q31c r29
    refine ⟨⟨by rw [r _ _ (by decide) (by decide) (by decide), e2 0 0 (by decide) (by decide)]; exact a1, by rw [r _ _ (by decide) (by decide) (by decide), e2 0 2 (by decide) (by decide)]; exact a2, fun f hf => ?_, fun s hs => ?_⟩, by rw [e1]; exact q28, by rw [r _ _ (by decide) (by decide) (by decide), e2 0 3 (by decide) (by decide)]; exact b2, fun f hf => ?_, fun j hj => ?_, fun j hj => ?_, fun k hk => ?_, n, by rw [r _ _ (by decide) (by decide) (by decide)]; exact c1, c2, fun i hi => ?_⟩
    · rw [e2 0 0 (by decide) (by decide)] at hf
      rw [r29]
      exact a3 f hf
    · rw [e2 0 2 (by decide) (by decide)] at hs
      rw [r29]
      exact a4 s hs
    · rw [e2 0 0 (by decide) (by decide)] at hf
      rw [r _ _ (by omega) (by decide) (by decide), e2 1 f (by decide) (by omega)]
      exact b3 f hf
    · rw [e1] at hj
      by_cases d : j < 3 * u.1 0 1
      · rw [r31 j d, e3 j d]
        exact b4 j d
      · by_cases d1 : j = 3 * u.1 0 1
        · rw [d1, q31a, e4]
        · by_cases d2 : j = 3 * u.1 0 1 + 1
          · rw [d2, q31b, e5]
          · rw [show j = 3 * u.1 0 1 + 2 by omega, q31c, e6]
    · rw [e2 0 2 (by decide) (by decide)] at hj
      rw [r _ _ (by omega) (by decide) (by decide), e2 3 _ (by decide) (Or.inl (by decide))]
      exact b5 j hj
    · rw [e1] at hk
      rw [r32]
      have eb : (u_g u x y z).2.2.2.1.testBit k = (u.2.2.2.1.testBit k || decide (u.1 0 1 = k)) := g_or2_t
      rw [eb]
      by_cases d : k = u.1 0 1
      · rw [if_pos d, decide_eq_true d.symm, Bool.or_true, if_pos rfl]
        rfl
      · rw [if_neg d, decide_eq_false (Ne.symm d), Bool.or_false]
        exact b6 k (by omega)
    · rw [r _ _ (by omega) (by decide) (by decide), r _ _ (by omega) (by decide) (by decide)]
      rcases c3 i hi with y | ⟨y1, a, y2, y3, y4, y5⟩
      · exact Or.inl y
      · exact Or.inr ⟨y1, a, y2, y3, y4, fun k hk => by rw [r _ _ (by omega) (by decide) (by decide)]; exact y5 k hk⟩
theorem pm_ugd {t : Nat → Nat} {N b : Nat} {u : g_U} (hu : pu_ok u) (ht : ∀ i, t i < 256) (hN : N ≤ 1600) (hb : b ≤ N) : pm_uc t N u (fun τ => F_X11_gapTold τ (nI (tk_s t N b))) (tk_e t N b) (pu_gap t N u b) := by
  have l8 := hu.1.1
  have l10 := hu.1.2.1
  have hes := tk_e_sp t hb
  unfold pu_gap
  by_cases c : u.1 0 1 < 10
  · rw [if_pos c]
    have D5 : ∀ x2 x4, pm_dd u (fun τ => (F_X11_number τ (nI 1) 9).bind fun q6 => pm_wG x2 x4 q6.1 q6.2) := fun x2 x4 => pm_dd.nu (fun x => pm_wGD)
    have D4 : ∀ x2 x4, pm_dd u (fun τ => (F_X11_asks τ 7).bind fun q5 => (F_X11_number q5.2 (nI 1) 9).bind fun q6 => pm_wG x2 x4 q6.1 q6.2) := fun x2 x4 => pm_dd.ex (g := fun τ => (F_X11_number τ (nI 1) 9).bind fun q6 => pm_wG x2 x4 q6.1 q6.2) (D5 x2 x4)
    have D3 : ∀ x x2, pm_dd u (fun τ => (F_X11_fieldNamed τ x).bind fun q4 => (F_X11_asks q4.2 7).bind fun q5 => (F_X11_number q5.2 (nI 1) 9).bind fun q6 => pm_wG x2 q4.1 q6.1 q6.2) := fun x x2 => pm_dd.kn (g := fun x4 τ => (F_X11_asks τ 7).bind fun q5 => (F_X11_number q5.2 (nI 1) 9).bind fun q6 => pm_wG x2 x4 q6.1 q6.2) l8 (fun x4 => D4 x2 x4)
    have D2 : ∀ x2, pm_dd u (fun τ => (F_X11_asks τ 6).bind fun q3 => (F_X11_fieldNamed q3.2 x2).bind fun q4 => (F_X11_asks q4.2 7).bind fun q5 => (F_X11_number q5.2 (nI 1) 9).bind fun q6 => pm_wG x2 q4.1 q6.1 q6.2) := fun x2 => pm_dd.ex (g := fun τ => (F_X11_fieldNamed τ x2).bind fun q4 => (F_X11_asks q4.2 7).bind fun q5 => (F_X11_number q5.2 (nI 1) 9).bind fun q6 => pm_wG x2 q4.1 q6.1 q6.2) (D3 x2 x2)
    refine pm_uc.cg (g := fun τ => (F_X11_fieldNamed τ (oI none)).bind fun q2 => (F_X11_asks q2.2 6).bind fun q3 => (F_X11_fieldNamed q3.2 q2.1).bind fun q4 => (F_X11_asks q4.2 7).bind fun q5 => (F_X11_number q5.2 (nI 1) 9).bind fun q6 => pm_wG q2.1 q4.1 q6.1 q6.2) (fun τ hs hM => ?_) ?_
    · have := (pm_full (τ := τ) (r := 2) (n := u.1 0 1) (lim := 10) (pl := tk_s t N b) hs.2.2.1 (by omega) hM.2.1 (by omega) (by omega)).1 (by omega)
      unfold F_X11_gapTold
      rw [show F_X11_isFull τ 2 10 (nI (tk_s t N b)) = _ from this]
      dsimp only [Option.bind_some]
      rw [if_pos rfl]
      rfl
    · refine pm_uc.kn (oth := none) (g := fun x2 τ => (F_X11_asks τ 6).bind fun q3 => (F_X11_fieldNamed q3.2 x2).bind fun q4 => (F_X11_asks q4.2 7).bind fun q5 => (F_X11_number q5.2 (nI 1) 9).bind fun q6 => pm_wG x2 q4.1 q6.1 q6.2) hu ht hN hes.2.1 (fun g hg => (by cases hg)) D2 (fun r1 hr1 i1 i2 i3 i4 => ?_)
      have hes1 := tk_e_sp t i4
      refine pm_uc.ex (x := (6, 259)) (g := fun τ => (F_X11_fieldNamed τ (oI (some r1.1))).bind fun q4 => (F_X11_asks q4.2 7).bind fun q5 => (F_X11_number q5.2 (nI 1) 9).bind fun q6 => pm_wG (nI r1.1) q4.1 q6.1 q6.2) ht hN i4 (by decide) (D3 _ _) ?_
      refine pm_uc.kn (oth := some r1.1) (g := fun x4 τ => (F_X11_asks τ 7).bind fun q5 => (F_X11_number q5.2 (nI 1) 9).bind fun q6 => pm_wG (nI r1.1) x4 q6.1 q6.2) hu ht hN hes1.2.1 (fun g hg => by rw [← Option.some.inj hg]; omega) (D4 _) (fun r2 hr2 j1 j2 j3 j4 => ?_)
      have hes2 := tk_e_sp t j4
      refine pm_uc.ex (x := (7, 260)) (g := fun τ => (F_X11_number τ (nI 1) 9).bind fun q6 => pm_wG (nI r1.1) (nI r2.1) q6.1 q6.2) ht hN j4 (by decide) (D5 _ _) ?_
      refine pm_uc.nu (lo := 1) (lim := 10) (x2 := 9) (g := fun x τ => pm_wG (nI r1.1) (nI r2.1) x τ) ht hN hes2.2.1 (by decide) (by decide) (fun x => pm_wGD) (fun r3 hr3 k1 k2 k3 k4 => ?_)
      refine fun τ hs hM => ⟨fun q hq => ?_, fun e he => (by cases he)⟩
      rw [← Except.ok.inj hq]
      exact pm_wG_ok c hs hM
  · rw [if_neg c]
    refine fun τ hs hM => ⟨fun q hq => (by cases hq), fun e he => ?_⟩
    rw [← Except.error.inj he]
    obtain ⟨τ', p1, p2, p3⟩ := (pm_full (τ := τ) (r := 2) (n := u.1 0 1) (lim := 10) (pl := tk_s t N b) hs.2.2.1 (by omega) hM.2.1 (by omega) (by omega)).2 (by omega)
    refine ⟨τ', ?_, p2, p3.uf (by simp) (by decide), (by omega : 0 < 5), (by omega : 5 < 100)⟩
    (try dsimp only)
    unfold F_X11_gapTold
    rw [show F_X11_isFull τ 2 10 (nI (tk_s t N b)) = _ from p1]
    dsimp only [Option.bind_some]
    rw [if_neg pz_10]
/-! a sheep -/
noncomputable def pm_wS (y : Int64) (x4 x6 : Int32) (τ : sw_St) : Option (Unit × sw_St) := if (τ.1 0 5) = 0 then (if sw_inb (8 + (τ.1 28 1)) 32 = true then (if sw_inb (2 * (τ.1 28 1)) 24 = true then (if sw_inb ((2 * (τ.1 28 1)) + 1) 24 = true then (some ((), (sw_uI (sw_uI (sw_uI (sw_uL τ 29 ((8 + (τ.1 28 1)).toNatClampNeg) y) 33 ((2 * (τ.1 28 1)).toNatClampNeg) x4) 33 (((2 * (τ.1 28 1)) + 1).toNatClampNeg) x6) 28 1 ((τ.1 28 1) + 1)))) else none) else none) else none) else (some ((), τ))
theorem pm_wSD {u : g_U} {x : Int64} {y z : Int32} : pm_dd u (pm_wS x y z) := fun τ hd => by
  unfold pm_wS
  rw [if_neg hd.1]
theorem pm_wS_ok {τ : sw_St} {t : Nat → Nat} {N b y z : Nat} {v : List Nat} {u : g_U} (h8 : u.1 0 0 ≤ 8) (h6 : u.1 0 2 < 6) (hs : pm_ps τ t N b) (hM : pu_M τ u b) : ∃ τ', pm_wS (lN (g_nr v)) (nI y) (nI z) τ = some ((), τ') ∧ pm_ps τ' t N b ∧ pu_M τ' (u_s u v y z) b ∧ pm_uf pm_UK τ τ' := by
  obtain ⟨⟨a1, a2, a3, a4⟩, b1, b2, b3, b4, b5, b6, n, c1, c2, c3⟩ := hM
  obtain ⟨e1, e2, e3, e4, e5, e6, e7⟩ := u_s_el (u := u) (v := v) (a := y) (c := z)
  have m : pm_uf pm_UK τ (sw_uI (sw_uI (sw_uI (sw_uL τ 29 (8 + u.1 0 2) (lN (g_nr v))) 33 (2 * u.1 0 2) (nI y)) 33 (2 * u.1 0 2 + 1) (nI z)) 28 1 (nI (u.1 0 2 + 1))) := ((((pm_uf.refl _ τ).L (by decide) (by unfold pm_kp; omega) _).I (by decide) (by unfold pm_kp; omega) _).I (by decide) (by unfold pm_kp; omega) _).I (by decide) (by unfold pm_kp; omega) _
  have r : ∀ o j, (o ≠ 28 ∨ j ≠ 1) → o ≠ 33 → (sw_uI (sw_uI (sw_uI (sw_uL τ 29 (8 + u.1 0 2) (lN (g_nr v))) 33 (2 * u.1 0 2) (nI y)) 33 (2 * u.1 0 2 + 1) (nI z)) 28 1 (nI (u.1 0 2 + 1))).1 o j = τ.1 o j := fun o j h1 h2 => by
    rw [pz_I, if_neg (by omega), pz_Io h2, pz_Io h2]
    rfl
  have q28 : (sw_uI (sw_uI (sw_uI (sw_uL τ 29 (8 + u.1 0 2) (lN (g_nr v))) 33 (2 * u.1 0 2) (nI y)) 33 (2 * u.1 0 2 + 1) (nI z)) 28 1 (nI (u.1 0 2 + 1))).1 28 1 = nI (u.1 0 2 + 1) := pz_Ie rfl rfl
  have r33 : ∀ j, j < 2 * u.1 0 2 → (sw_uI (sw_uI (sw_uI (sw_uL τ 29 (8 + u.1 0 2) (lN (g_nr v))) 33 (2 * u.1 0 2) (nI y)) 33 (2 * u.1 0 2 + 1) (nI z)) 28 1 (nI (u.1 0 2 + 1))).1 33 j = τ.1 33 j := fun j hj => by
    rw [pz_Io (by decide), pz_Ik (by omega), pz_Ik (by omega)]
    rfl
  have q33a : (sw_uI (sw_uI (sw_uI (sw_uL τ 29 (8 + u.1 0 2) (lN (g_nr v))) 33 (2 * u.1 0 2) (nI y)) 33 (2 * u.1 0 2 + 1) (nI z)) 28 1 (nI (u.1 0 2 + 1))).1 33 (2 * u.1 0 2) = nI y := by
    rw [pz_Io (by decide), pz_Ik (by omega), pz_Ie rfl rfl]
  have q33b : (sw_uI (sw_uI (sw_uI (sw_uL τ 29 (8 + u.1 0 2) (lN (g_nr v))) 33 (2 * u.1 0 2) (nI y)) 33 (2 * u.1 0 2 + 1) (nI z)) 28 1 (nI (u.1 0 2 + 1))).1 33 (2 * u.1 0 2 + 1) = nI z := by
    rw [pz_Io (by decide), pz_Ie rfl rfl]
  have r29 : ∀ f, (sw_uI (sw_uI (sw_uI (sw_uL τ 29 (8 + u.1 0 2) (lN (g_nr v))) 33 (2 * u.1 0 2) (nI y)) 33 (2 * u.1 0 2 + 1) (nI z)) 28 1 (nI (u.1 0 2 + 1))).2.1 29 f = if f = 8 + u.1 0 2 then lN (g_nr v) else τ.2.1 29 f := fun f => by
    show (sw_uL τ 29 (8 + u.1 0 2) (lN (g_nr v))).2.1 29 f = _
    by_cases c : f = 8 + u.1 0 2
    · rw [if_pos c, pz_Le rfl c]
    · rw [if_neg c, pz_Lk c]
  refine ⟨_, ?_, hs.mvW m (r 0 2 (by decide) (by decide)) (r 0 4 (by decide) (by decide)) (r 0 5 (by decide) (by decide)) (r 0 6 (by decide) (by decide)), ?_, m⟩
  · unfold pm_wS
    rw [if_pos hs.2.2.1, a2, show (8 : Int32) + nI (u.1 0 2) = nI (8 + u.1 0 2) from nI_add 8 _, show (2 : Int32) * nI (u.1 0 2) = nI (2 * u.1 0 2) from pk_mul 2 _, show nI (2 * u.1 0 2) + 1 = nI (2 * u.1 0 2 + 1) from nI_add _ 1, if_pos (pz_inb (by omega) (by omega)), if_pos (pz_inb (by omega) (by omega)), if_pos (pz_inb (by omega) (by omega)), nI_clamp (show 8 + u.1 0 2 < 2 ^ 31 by omega), nI_clamp (show 2 * u.1 0 2 < 2 ^ 31 by omega), nI_clamp (show 2 * u.1 0 2 + 1 < 2 ^ 31 by omega), nI_1]
  · generalize hg2 : sw_uI (sw_uI (sw_uI (sw_uL τ 29 (8 + u.1 0 2) (lN (g_nr v))) 33 (2 * u.1 0 2) (nI y)) 33 (2 * u.1 0 2 + 1) (nI z)) 28 1 (nI (u.1 0 2 + 1)) = τ2 at m r q28 r33 q33a q33b r29
    refine ⟨⟨by rw [r _ _ (by decide) (by decide), e2 0 0 (by decide) (by decide)]; exact a1, by rw [e1]; exact q28, fun f hf => ?_, fun s hs => ?_⟩, by rw [r _ _ (by decide) (by decide), e2 0 1 (by decide) (by decide)]; exact b1, by rw [r _ _ (by decide) (by decide), e2 0 3 (by decide) (by decide)]; exact b2, fun f hf => ?_, fun j hj => ?_, fun j hj => ?_, fun k hk => ?_, n, by rw [r _ _ (by decide) (by decide)]; exact c1, c2, fun i hi => ?_⟩
    · rw [e2 0 0 (by decide) (by decide)] at hf
      rw [r29, e6, if_neg (by omega)]
      exact a3 f hf
    · rw [e1] at hs
      rw [r29, e7]
      by_cases d : s = u.1 0 2
      · rw [if_pos (by omega), if_pos d]
      · rw [if_neg (by omega), if_neg d]
        exact a4 s (by omega)
    · rw [e2 0 0 (by decide) (by decide)] at hf
      rw [r _ _ (by omega) (by decide), e2 1 f (by decide) (by omega)]
      exact b3 f hf
    · rw [e2 0 1 (by decide) (by decide)] at hj
      rw [r _ _ (by omega) (by decide), e2 2 _ (by decide) (Or.inl (by decide))]
      exact b4 j hj
    · rw [e1] at hj
      by_cases d : j < 2 * u.1 0 2
      · rw [r33 j d, e3 j d]
        exact b5 j d
      · by_cases d1 : j = 2 * u.1 0 2
        · rw [d1, q33a, e4]
        · rw [show j = 2 * u.1 0 2 + 1 by omega, q33b, e5]
    · rw [e2 0 1 (by decide) (by decide)] at hk
      rw [r _ _ (by omega) (by decide)]
      exact b6 k hk
    · rw [r _ _ (by omega) (by decide), r _ _ (by omega) (by decide)]
      rcases c3 i hi with y | ⟨y1, a, y2, y3, y4, y5⟩
      · exact Or.inl y
      · exact Or.inr ⟨y1, a, y2, y3, y4, fun k hk => by rw [r _ _ (by omega) (by decide)]; exact y5 k hk⟩
theorem pm_usd {t : Nat → Nat} {N b : Nat} {u : g_U} (hu : pu_ok u) (ht : ∀ i, t i < 256) (hN : N ≤ 1600) (hb : b ≤ N) : pm_uc t N u (fun τ => F_X11_sheepTold τ (nI (tk_s t N b))) (tk_e t N b) (pu_sheep t N u b) := by
  have l8 := hu.1.1
  have l6 := hu.1.2.2.1
  have hes := tk_e_sp t hb
  unfold pu_sheep
  by_cases c : u.1 0 2 < 6
  · rw [if_pos c]
    have D5 : ∀ x2 x4, pm_dd u (fun τ => (F_X11_number τ (nI 0) 9).bind fun q6 => pm_wS x2 x4 q6.1 q6.2) := fun x2 x4 => pm_dd.nu (fun x => pm_wSD)
    have D4 : ∀ x2 x4, pm_dd u (fun τ => (F_X11_asks τ 11).bind fun q5 => (F_X11_number q5.2 (nI 0) 9).bind fun q6 => pm_wS x2 x4 q6.1 q6.2) := fun x2 x4 => pm_dd.ex (g := fun τ => (F_X11_number τ (nI 0) 9).bind fun q6 => pm_wS x2 x4 q6.1 q6.2) (D5 x2 x4)
    have D3 : ∀ x x2, pm_dd u (fun τ => (F_X11_fieldNamed τ x).bind fun q4 => (F_X11_asks q4.2 11).bind fun q5 => (F_X11_number q5.2 (nI 0) 9).bind fun q6 => pm_wS x2 q4.1 q6.1 q6.2) := fun x x2 => pm_dd.kn (g := fun x4 τ => (F_X11_asks τ 11).bind fun q5 => (F_X11_number q5.2 (nI 0) 9).bind fun q6 => pm_wS x2 x4 q6.1 q6.2) l8 (fun x4 => D4 x2 x4)
    have D2 : ∀ x2, pm_dd u (fun τ => (F_X11_asks τ 10).bind fun q3 => (F_X11_fieldNamed q3.2 (oI none)).bind fun q4 => (F_X11_asks q4.2 11).bind fun q5 => (F_X11_number q5.2 (nI 0) 9).bind fun q6 => pm_wS x2 q4.1 q6.1 q6.2) := fun x2 => pm_dd.ex (g := fun τ => (F_X11_fieldNamed τ (oI none)).bind fun q4 => (F_X11_asks q4.2 11).bind fun q5 => (F_X11_number q5.2 (nI 0) 9).bind fun q6 => pm_wS x2 q4.1 q6.1 q6.2) (D3 _ x2)
    refine pm_uc.cg (g := fun τ => (F_X11_newName τ).bind fun q2 => (F_X11_asks q2.2 10).bind fun q3 => (F_X11_fieldNamed q3.2 (oI none)).bind fun q4 => (F_X11_asks q4.2 11).bind fun q5 => (F_X11_number q5.2 (nI 0) 9).bind fun q6 => pm_wS q2.1 q4.1 q6.1 q6.2) (fun τ hs hM => ?_) ?_
    · have := (pm_full (τ := τ) (r := 1) (n := u.1 0 2) (lim := 6) (pl := tk_s t N b) hs.2.2.1 (by omega) hM.1.2.1 (by omega) (by omega)).1 (by omega)
      unfold F_X11_sheepTold
      rw [show F_X11_isFull τ 1 6 (nI (tk_s t N b)) = _ from this]
      dsimp only [Option.bind_some]
      rw [if_pos rfl]
      rfl
    · refine pm_uc.nw (g := fun x2 τ => (F_X11_asks τ 10).bind fun q3 => (F_X11_fieldNamed q3.2 (oI none)).bind fun q4 => (F_X11_asks q4.2 11).bind fun q5 => (F_X11_number q5.2 (nI 0) 9).bind fun q6 => pm_wS x2 q4.1 q6.1 q6.2) hu ht hN hes.2.1 D2 (fun r1 hr1 f1 f2 i4 => ?_)
      have hes1 := tk_e_sp t i4
      refine pm_uc.ex (x := (10, 263)) (g := fun τ => (F_X11_fieldNamed τ (oI none)).bind fun q4 => (F_X11_asks q4.2 11).bind fun q5 => (F_X11_number q5.2 (nI 0) 9).bind fun q6 => pm_wS (lN (g_nr r1.1)) q4.1 q6.1 q6.2) ht hN i4 (by decide) (D3 _ _) ?_
      refine pm_uc.kn (oth := none) (g := fun x4 τ => (F_X11_asks τ 11).bind fun q5 => (F_X11_number q5.2 (nI 0) 9).bind fun q6 => pm_wS (lN (g_nr r1.1)) x4 q6.1 q6.2) hu ht hN hes1.2.1 (fun g hg => (by cases hg)) (D4 _) (fun r2 hr2 j1 j2 j3 j4 => ?_)
      have hes2 := tk_e_sp t j4
      refine pm_uc.ex (x := (11, 264)) (g := fun τ => (F_X11_number τ (nI 0) 9).bind fun q6 => pm_wS (lN (g_nr r1.1)) (nI r2.1) q6.1 q6.2) ht hN j4 (by decide) (D5 _ _) ?_
      refine pm_uc.nu (lo := 0) (lim := 10) (x2 := 9) (g := fun x τ => pm_wS (lN (g_nr r1.1)) (nI r2.1) x τ) ht hN hes2.2.1 (by decide) (by decide) (fun x => pm_wSD) (fun r3 hr3 k1 k2 k3 k4 => ?_)
      refine fun τ hs hM => ⟨fun q hq => ?_, fun e he => (by cases he)⟩
      rw [← Except.ok.inj hq]
      exact pm_wS_ok l8 c hs hM
  · rw [if_neg c]
    refine fun τ hs hM => ⟨fun q hq => (by cases hq), fun e he => ?_⟩
    rw [← Except.error.inj he]
    obtain ⟨τ', p1, p2, p3⟩ := (pm_full (τ := τ) (r := 1) (n := u.1 0 2) (lim := 6) (pl := tk_s t N b) hs.2.2.1 (by omega) hM.1.2.1 (by omega) (by omega)).2 (by omega)
    refine ⟨τ', ?_, p2, p3.uf (by simp) (by decide), (by omega : 0 < 5), (by omega : 5 < 100)⟩
    (try dsimp only)
    unfold F_X11_sheepTold
    rw [show F_X11_isFull τ 1 6 (nI (tk_s t N b)) = _ from p1]
    dsimp only [Option.bind_some]
    rw [if_neg pz_10]

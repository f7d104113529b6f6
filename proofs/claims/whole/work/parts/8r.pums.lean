/-! Names and known fields: the reference. -/
theorem pm_nw7 {y : Int64} {τ : sw_St} {fuel : Nat} (hf : 3 ≤ fuel) (h2 : ∀ (k : Nat) (c7 : sw_St → Int64 → Int32 → Option (Int64 × sw_St)), L_X11_newName_15 c7 sw_fuel τ y (nI k) (nI 0) = c7 τ y (nI (k + 1)) ∨ 2 ≤ k) : L_X11_newName_7 fuel τ y 0 = some (y, τ) := by
  match fuel, hf with
  | fuel + 3, _ =>
    have g : ∀ (n k : Nat), k < 2 → L_X11_newName_7 (n + 1) τ y (nI k) = L_X11_newName_7 n τ y (nI (k + 1)) := fun n k hk => by
      show S_X11_newName_7 (fun σ y1 x3 => L_X11_newName_7 n σ y1 x3) τ y (nI k) = _
      unfold S_X11_newName_7
      rw [if_neg (show ¬ (2 : Int32) ≤ nI k from nI_ge (b := 2) (by omega) (by omega))]
      rcases h2 k (fun σ y1 x3 => L_X11_newName_7 n σ y1 x3) with h | h
      · exact h
      · omega
    have e1 := g (fuel + 2) 0 (by omega)
    have e2 := g (fuel + 1) 1 (by omega)
    rw [show L_X11_newName_7 (fuel + 3) τ y 0 = _ from e1, show L_X11_newName_7 (fuel + 2) τ y (nI (0 + 1)) = _ from e2]
    show S_X11_newName_7 _ τ y (nI 2) = _
    unfold S_X11_newName_7
    rw [if_pos (show (2 : Int32) ≤ nI 2 from nI_le (a := 2) (by omega) (by omega))]
theorem pm_nw7D {u : g_U} {y : Int64} {τ : sw_St} {fuel : Nat} (h8 : u.1 0 0 ≤ 8) (h6 : u.1 0 2 ≤ 6) (hf : 3 ≤ fuel) (h5 : ¬ τ.1 0 5 = 0) (h0 : τ.1 28 0 = nI (u.1 0 0)) (h1 : τ.1 28 1 = nI (u.1 0 2)) : L_X11_newName_7 fuel τ y 0 = some (y, τ) := by
  have hfu := sw_fuel_ge
  refine pm_nw7 hf (fun k c7 => ?_)
  by_cases c0 : k = 0
  · rw [c0]
    exact Or.inl (pm_nw15D (r := 0) (by omega) h8 (u.1 0 0) sw_fuel 0 τ h5 h0 (by omega) (by omega))
  · by_cases c1 : k = 1
    · rw [c1]
      exact Or.inl (pm_nw15D (r := 1) (n := u.1 0 2) (by omega) (by omega) (u.1 0 2) sw_fuel 0 τ h5 h1 (by omega) (by omega))
    · exact Or.inr (by omega)
theorem pm_newND {u : g_U} {τ : sw_St} (h8 : u.1 0 0 ≤ 8) (h6 : u.1 0 2 ≤ 6) (h5 : ¬ τ.1 0 5 = 0) (h0 : τ.1 28 0 = nI (u.1 0 0)) (h1 : τ.1 28 1 = nI (u.1 0 2)) : F_X11_newName τ = some (0, τ) := by
  unfold F_X11_newName
  rw [pm_nameD h5]
  dsimp only [Option.bind_some]
  exact pm_nw7D h8 h6 (by have := sw_fuel_ge; omega) h5 h0 h1
theorem pm_newName {τ : sw_St} {t : Nat → Nat} {N b : Nat} {u : g_U} (hu : pu_ok u) (h : pm_ps τ t N b) (hM : pu_N τ u) (ht : ∀ i, t i < 256) (hN : N ≤ 1600) (hb : b ≤ N) :
    (∀ r, pu_new t N u b = .ok r → ∃ τ', F_X11_newName τ = some (lN (g_nr r.1), τ') ∧ pm_ps τ' t N r.2 ∧ pm_lx τ τ') ∧ (∀ e, pu_new t N u b = .error e → ∃ τ' y, F_X11_newName τ = some (y, τ') ∧ pm_bad τ' e.1 e.2 ∧ pm_lx τ τ' ∧ 0 < e.1 ∧ e.1 < 100) := by
  have hfu := sw_fuel_ge
  have l8 := hu.1.1
  have l6 := hu.1.2.2.1
  obtain ⟨a1, a2⟩ := pm_name h ht hN hb
  unfold pu_new F_X11_newName
  cases hn : tk_name t N b with
  | error e0 =>
    obtain ⟨τ1, p1, p2, p3, p4, p5⟩ := a2 e0 hn
    have hM1 := hM.mv p3
    refine ⟨fun r hr => (by cases hr), fun e he => ?_⟩
    have he : (Except.error e0 : Except (Nat × Nat) (List Nat × Nat)) = .error e := he
    rw [← Except.error.inj he, p1]
    dsimp only [Option.bind_some]
    exact ⟨τ1, 0, pm_nw7D l8 l6 (by omega) (pm_eq0 p2.1 p4 p5) hM1.1 hM1.2.1, p2, p3, p4, p5⟩
  | ok r =>
    obtain ⟨τ1, p1, p2, p3, p36⟩ := a1 r hn
    have hM1 := hM.mv p3
    have hk := tk_name_ok ht hb hn
    rw [p1]
    dsimp only [Option.bind_some]
    have er : ub (Except.ok r) (fun r => if g_fn (u.2.2.1 0) r.1 (u.1 0 0) = none ∧ g_fn (u.2.2.1 1) r.1 (u.1 0 2) = none then .ok r else .error (3, tk_s t N b)) = (if g_fn (u.2.2.1 0) r.1 (u.1 0 0) = none ∧ g_fn (u.2.2.1 1) r.1 (u.1 0 2) = none then .ok r else .error (3, tk_s t N b) : Except (Nat × Nat) (List Nat × Nat)) := rfl
    rw [er]
    have w0 := fun c7 => pm_nw15 (u := u) (v := r.1) (r := 0) (n := u.1 0 0) (pl := tk_s t N b) (c7 := c7) (nm := u.2.2.1 0) (Or.inl ⟨rfl, rfl⟩) l8 hk.1 hu.2.1.1 (u.1 0 0) sw_fuel 0
    have w1 := fun c7 => pm_nw15 (u := u) (v := r.1) (r := 1) (n := u.1 0 2) (pl := tk_s t N b) (c7 := c7) (nm := u.2.2.1 1) (Or.inr ⟨rfl, rfl⟩) (by omega) hk.1 hu.2.1.2 (u.1 0 2) sw_fuel 0
    have x0 := fun c7 => w0 c7 τ1 hM1.1 (fun f hf => by rw [Nat.mul_zero, Nat.zero_add]; exact hM1.2.2.1 f hf) p36 (by omega) (by omega)
    have x1 := fun c7 (τ2 : sw_St) (m : pm_sm [] [5, 6] τ1 τ2) => w1 c7 τ2 (by rw [m.r (by decide) (by decide)]; exact hM1.2.1) (fun s hs => by rw [Nat.mul_one, (m.1 29 (by decide) (by decide)).2]; exact hM1.2.2.2 s hs) (by rw [m.2.1 36 (by decide)]; exact p36) (by omega) (by omega)
    -- one step of the outer row
    have st : ∀ (n k : Nat) (τ2 : sw_St), k < 2 → L_X11_newName_7 (n + 1) τ2 (lN (g_nr r.1)) (nI k) = L_X11_newName_15 (fun σ y1 x3 => L_X11_newName_7 n σ y1 x3) sw_fuel τ2 (lN (g_nr r.1)) (nI k) (nI 0) := fun n k τ2 hk => by
      show S_X11_newName_7 (fun σ y1 x3 => L_X11_newName_7 n σ y1 x3) τ2 (lN (g_nr r.1)) (nI k) = _
      unfold S_X11_newName_7
      rw [if_neg (show ¬ (2 : Int32) ≤ nI k from nI_ge (b := 2) (by omega) (by omega))]
      rfl
    have fin : ∀ (n : Nat) (τ2 : sw_St), L_X11_newName_7 (n + 1) τ2 (lN (g_nr r.1)) (nI 2) = some (lN (g_nr r.1), τ2) := fun n τ2 => by
      show S_X11_newName_7 _ τ2 (lN (g_nr r.1)) (nI 2) = _
      unfold S_X11_newName_7
      rw [if_pos (show (2 : Int32) ≤ nI 2 from nI_le (a := 2) (by omega) (by omega))]
    obtain ⟨m, hm⟩ : ∃ m, sw_fuel = m + 3 := ⟨sw_fuel - 3, by omega⟩
    have e3 : L_X11_newName_7 sw_fuel τ1 (lN (g_nr r.1)) 0 = L_X11_newName_7 (m + 3) τ1 (lN (g_nr r.1)) (nI 0) := by rw [← hm]; rfl
    rw [e3, st (m + 2) 0 τ1 (by omega)]
    cases h1 : g_fn (u.2.2.1 0) r.1 (u.1 0 0) with
    | some f =>
      obtain ⟨τ2, k1, k2, k3⟩ := (x0 (fun σ y1 x3 => L_X11_newName_7 (m + 2) σ y1 x3)).2 p2.2.2.1 (by rw [show g_fi (fun f => decide (u.2.2.1 0 f = r.1)) (u.1 0 0) 0 = some f from h1]; simp)
      rw [if_neg (show ¬ ((some f : Option Nat) = none ∧ _) from fun y => (by cases y.1)), k1]
      refine ⟨fun r hr => (by cases hr), fun e he => ?_⟩
      rw [← Except.error.inj he]
      have d5 := pm_eq0 k2.1 (by omega) (by omega)
      refine ⟨τ2, lN (g_nr r.1), ?_, k2, pm_sm.trans p3 (k3.mono (by decide) (by decide)), (by omega : 0 < 3), (by omega : 3 < 100)⟩
      show L_X11_newName_7 (m + 1 + 1) τ2 (lN (g_nr r.1)) (nI 1) = _
      rw [st (m + 1) 1 τ2 (by omega), pm_nw15D (r := 1) (n := u.1 0 2) (by omega) (by omega) (u.1 0 2) sw_fuel 0 τ2 d5 (by rw [k3.r (by decide) (by decide)]; exact hM1.2.1) (by omega) (by omega)]
      exact fin m τ2
    | none =>
      rw [(x0 (fun σ y1 x3 => L_X11_newName_7 (m + 2) σ y1 x3)).1 p2.2.2.1 h1]
      have e4 : L_X11_newName_7 (m + 2) τ1 (lN (g_nr r.1)) (nI (0 + 1)) = L_X11_newName_15 (fun σ y1 x3 => L_X11_newName_7 (m + 1) σ y1 x3) sw_fuel τ1 (lN (g_nr r.1)) (nI 1) (nI 0) := st (m + 1) 1 τ1 (by omega)
      rw [e4]
      cases h2 : g_fn (u.2.2.1 1) r.1 (u.1 0 2) with
      | some f =>
        obtain ⟨τ2, k1, k2, k3⟩ := (x1 (fun σ y1 x3 => L_X11_newName_7 (m + 1) σ y1 x3) τ1 (pm_sm.refl _ _ _)).2 p2.2.2.1 (by rw [show g_fi (fun f => decide (u.2.2.1 1 f = r.1)) (u.1 0 2) 0 = some f from h2]; simp)
        rw [if_neg (show ¬ ((none : Option Nat) = none ∧ (some f : Option Nat) = none) from fun y => (by cases y.2)), k1]
        refine ⟨fun r hr => (by cases hr), fun e he => ?_⟩
        rw [← Except.error.inj he]
        exact ⟨τ2, lN (g_nr r.1), fin m τ2, k2, pm_sm.trans p3 (k3.mono (by decide) (by decide)), (by omega : 0 < 3), (by omega : 3 < 100)⟩
      | none =>
        rw [if_pos ⟨rfl, rfl⟩, (x1 (fun σ y1 x3 => L_X11_newName_7 (m + 1) σ y1 x3) τ1 (pm_sm.refl _ _ _)).1 p2.2.2.1 h2]
        exact ⟨fun r2 hr => (by rw [← Except.ok.inj hr]; exact ⟨τ1, fin m τ1, p2, p3⟩), fun e he => (by cases he)⟩
theorem pm_fn8D {x : Int32} {y : Int64} {n : Nat} (hn : n ≤ 8) : ∀ (k fuel i : Nat) (τ : sw_St), ¬ τ.1 0 5 = 0 → τ.1 28 0 = nI n → i + k = n → k < fuel → ∃ v, L_X11_fieldNamed_8 fuel τ x y (nI i) = some (v, τ)
  | 0, fuel + 1, i, τ, h5, h1, hi, hf => by
    refine ⟨0, ?_⟩
    show S_X11_fieldNamed_8 _ τ x y (nI i) = _
    unfold S_X11_fieldNamed_8 S_X11_fieldNamed_62
    rw [h1, if_pos (nI_le (by omega) (by omega)), if_neg h5]
  | k + 1, fuel + 1, i, τ, h5, h1, hi, hf => by
    obtain ⟨v, hv⟩ := pm_fn8D (x := x) (y := y) hn k fuel (i + 1) τ h5 h1 (by omega) (by omega)
    have e0 : L_X11_fieldNamed_8 (fuel + 1) τ x y (nI i) = S_X11_fieldNamed_8 (fun σ x1 y2 x4 => L_X11_fieldNamed_8 fuel σ x1 y2 x4) τ x y (nI i) := rfl
    rw [e0]
    unfold S_X11_fieldNamed_8 S_X11_fieldNamed_40
    rw [h1, if_neg (nI_ge (by omega) (by omega)), nI_1, if_pos (pz_inb (by omega) (by omega))]
    by_cases c : nI i = x
    · rw [if_pos c]
      exact ⟨v, hv⟩
    · rw [if_neg c]
      by_cases c2 : lg_cmp (τ.2.1 29 (nI i).toNatClampNeg) y = 0
      · rw [if_pos c2]
        exact ⟨_, rfl⟩
      · rw [if_neg c2]
        exact ⟨v, hv⟩
theorem pm_knownD {u : g_U} {τ : sw_St} {x : Int32} (h8 : u.1 0 0 ≤ 8) (h5 : ¬ τ.1 0 5 = 0) (h0 : τ.1 28 0 = nI (u.1 0 0)) : ∃ v, F_X11_fieldNamed τ x = some (v, τ) := by
  have hfu := sw_fuel_ge
  unfold F_X11_fieldNamed
  rw [pm_nameD h5]
  dsimp only [Option.bind_some]
  exact pm_fn8D h8 (u.1 0 0) sw_fuel 0 τ h5 h0 (by omega) (by omega)
theorem pm_fn8 {u : g_U} {v : List Nat} {oth : Option Nat} {pl : Nat} {nm : Nat → List Nat} (h8 : u.1 0 0 ≤ 8) (hv : g_nk v) (hk : ∀ f, f < u.1 0 0 → g_nk (nm f)) (ho : ∀ g, oth = some g → g < 8) : ∀ (k fuel i : Nat) (τ : sw_St), τ.1 28 0 = nI (u.1 0 0) → (∀ f, f < u.1 0 0 → τ.2.1 29 f = lN (g_nr (nm f))) → τ.1 0 36 = nI pl → τ.1 0 5 = 0 → i + k = u.1 0 0 → k < fuel →
    (∀ f, g_fi (fun f => decide (¬ oth = some f ∧ nm f = v)) k i = some f → L_X11_fieldNamed_8 fuel τ (oI oth) (lN (g_nr v)) (nI i) = some (nI f, τ)) ∧ (g_fi (fun f => decide (¬ oth = some f ∧ nm f = v)) k i = none → ∃ τ', L_X11_fieldNamed_8 fuel τ (oI oth) (lN (g_nr v)) (nI i) = some (0, τ') ∧ pm_bad τ' 3 pl ∧ pm_sm [] [5, 6] τ τ')
  | 0, fuel + 1, i, τ, h1, h2, h36, h5, hi, hf => by
    refine ⟨fun f hf => (by cases hf), fun _ => ?_⟩
    obtain ⟨τ2, q1, q2, q3⟩ := pm_failN (τ := τ) (kd := 3) (pl := pl) h5
    refine ⟨τ2, ?_, q2, q3⟩
    show S_X11_fieldNamed_8 _ τ (oI oth) (lN (g_nr v)) (nI i) = _
    unfold S_X11_fieldNamed_8 S_X11_fieldNamed_62
    rw [h1, if_pos (nI_le (by omega) (by omega)), if_pos h5, h36, show F_X11_fail τ 3 (nI pl) = _ from q1]
    rfl
  | k + 1, fuel + 1, i, τ, h1, h2, h36, h5, hi, hf => by
    have ih := pm_fn8 (oth := oth) (pl := pl) h8 hv hk ho k fuel (i + 1) τ h1 h2 h36 h5 (by omega) (by omega)
    have b1 := g_nr_lt0 (hk i (by omega))
    have b2 := g_nr_lt0 hv
    have hx : nI i = oI oth ↔ oth = some i := by
      cases ho2 : oth with
      | none =>
        refine ⟨fun y => absurd y (pz_nm1 (n := i) (by omega)), fun y => (by cases y)⟩
      | some g =>
        have hg := ho g ho2
        show nI i = nI g ↔ _
        rw [nI_eq (by omega) (by omega)]
        exact ⟨fun y => by rw [y], fun y => (Option.some.inj y).symm⟩
    have e0 : L_X11_fieldNamed_8 (fuel + 1) τ (oI oth) (lN (g_nr v)) (nI i) = if oth = some i then L_X11_fieldNamed_8 fuel τ (oI oth) (lN (g_nr v)) (nI (i + 1)) else (if nm i = v then some (nI i, τ) else L_X11_fieldNamed_8 fuel τ (oI oth) (lN (g_nr v)) (nI (i + 1))) := by
      show S_X11_fieldNamed_8 _ τ (oI oth) (lN (g_nr v)) (nI i) = _
      unfold S_X11_fieldNamed_8 S_X11_fieldNamed_40
      rw [h1, if_neg (nI_ge (by omega) (by omega)), nI_1, if_pos (pz_inb (by omega) (by omega)), nI_clamp (by omega), h2 i (by omega)]
      by_cases c : oth = some i
      · rw [if_pos (hx.mpr c), if_pos c]
      · rw [if_neg (fun y => c (hx.mp y)), if_neg c]
        by_cases c2 : nm i = v
        · rw [if_pos ((lg_cmp_eq _ _).mpr (by rw [c2])), if_pos c2]
        · rw [if_neg c2, if_neg (fun y => c2 (g_nr_inj (hk i (by omega)) hv ((lN_eq (by omega) (by omega)).mp ((lg_cmp_eq _ _).mp y))))]
    rw [e0]
    have eg : g_fi (fun f => decide (¬ oth = some f ∧ nm f = v)) (k + 1) i = if decide (¬ oth = some i ∧ nm i = v) = true then some i else g_fi (fun f => decide (¬ oth = some f ∧ nm f = v)) k (i + 1) := rfl
    rw [eg]
    by_cases c : oth = some i
    · rw [if_pos c, if_neg (by simp [c])]
      exact ih
    · rw [if_neg c]
      by_cases c2 : nm i = v
      · rw [if_pos c2, if_pos (decide_eq_true ⟨c, c2⟩)]
        exact ⟨fun f hf => by rw [← Option.some.inj hf], fun y => (by cases y)⟩
      · rw [if_neg c2, if_neg (by simp [c2])]
        exact ih
theorem pm_known {τ : sw_St} {t : Nat → Nat} {N b : Nat} {u : g_U} {oth : Option Nat} (hu : pu_ok u) (h : pm_ps τ t N b) (hM : pu_N τ u) (ht : ∀ i, t i < 256) (hN : N ≤ 1600) (hb : b ≤ N) (ho : ∀ g, oth = some g → g < 8) :
    (∀ r, pu_kn t N u oth b = .ok r → ∃ τ', F_X11_fieldNamed τ (oI oth) = some (nI r.1, τ') ∧ pm_ps τ' t N r.2 ∧ pm_lx τ τ') ∧ (∀ e, pu_kn t N u oth b = .error e → ∃ τ' y, F_X11_fieldNamed τ (oI oth) = some (y, τ') ∧ pm_bad τ' e.1 e.2 ∧ pm_lx τ τ' ∧ 0 < e.1 ∧ e.1 < 100) := by
  have hfu := sw_fuel_ge
  have l8 := hu.1.1
  obtain ⟨a1, a2⟩ := pm_name h ht hN hb
  unfold pu_kn F_X11_fieldNamed
  cases hn : tk_name t N b with
  | error e0 =>
    obtain ⟨τ1, p1, p2, p3, p4, p5⟩ := a2 e0 hn
    have hM1 := hM.mv p3
    refine ⟨fun r hr => (by cases hr), fun e he => ?_⟩
    have he : (Except.error e0 : Except (Nat × Nat) (Nat × Nat)) = .error e := he
    rw [← Except.error.inj he, p1]
    dsimp only [Option.bind_some]
    obtain ⟨v, hv⟩ := pm_fn8D (x := oI oth) (y := 0) l8 (u.1 0 0) sw_fuel 0 τ1 (pm_eq0 p2.1 p4 p5) hM1.1 (by omega) (by omega)
    exact ⟨τ1, v, hv, p2, p3, p4, p5⟩
  | ok r =>
    obtain ⟨τ1, p1, p2, p3, p36⟩ := a1 r hn
    have hM1 := hM.mv p3
    have hk := tk_name_ok ht hb hn
    rw [p1]
    dsimp only [Option.bind_some]
    obtain ⟨i1, i2⟩ := pm_fn8 (u := u) (oth := oth) (pl := tk_s t N b) l8 hk.1 hu.2.1.1 ho (u.1 0 0) sw_fuel 0 τ1 hM1.1 hM1.2.2.1 p36 p2.2.2.1 (by omega) (by omega)
    have er : ub (Except.ok r) (fun r => pu_kf oth (tk_s t N b) r.2 (g_fn (u.2.2.1 0) r.1 (u.1 0 0))) = pu_kf oth (tk_s t N b) r.2 (g_fn (u.2.2.1 0) r.1 (u.1 0 0)) := rfl
    rw [er]
    have no : g_fi (fun f => decide (¬ oth = some f ∧ u.2.2.1 0 f = r.1)) (u.1 0 0) 0 = none → ∀ (e : Nat × Nat), (3, tk_s t N b) = e → ∃ τ' y, L_X11_fieldNamed_8 sw_fuel τ1 (oI oth) (lN (g_nr r.1)) 0 = some (y, τ') ∧ pm_bad τ' e.1 e.2 ∧ pm_lx τ τ' ∧ 0 < e.1 ∧ e.1 < 100 := fun z e he => by
      obtain ⟨τ', q1, q2, q3⟩ := i2 z
      rw [← he]
      exact ⟨τ', 0, q1, q2, pm_sm.trans p3 (q3.mono (by decide) (by decide)), (by omega : 0 < 3), (by omega : 3 < 100)⟩
    cases h1 : g_fn (u.2.2.1 0) r.1 (u.1 0 0) with
    | none =>
      refine ⟨fun r hr => (by cases hr), fun e he => no ?_ e (Except.error.inj he)⟩
      cases hz : g_fi (fun f => decide (¬ oth = some f ∧ u.2.2.1 0 f = r.1)) (u.1 0 0) 0 with
      | none => rfl
      | some g =>
        exfalso
        have y := g_fi_some hz
        have y2 := g_fi_none h1 g (by omega) (by omega)
        rw [decide_eq_true (of_decide_eq_true y.2.2).2] at y2
        cases y2
    | some f =>
      have hf := g_fi_some h1
      have hf2 := of_decide_eq_true hf.2.2
      have es : pu_kf oth (tk_s t N b) r.2 (some f) = if oth = some f then .error (3, tk_s t N b) else .ok (f, r.2) := rfl
      rw [es]
      by_cases c : oth = some f
      · rw [if_pos c]
        refine ⟨fun r hr => (by cases hr), fun e he => no ?_ e (Except.error.inj he)⟩
        cases hz : g_fi (fun f => decide (¬ oth = some f ∧ u.2.2.1 0 f = r.1)) (u.1 0 0) 0 with
        | none => rfl
        | some g =>
          exfalso
          have y := g_fi_some hz
          have y2 := of_decide_eq_true y.2.2
          have := hu.2.2.1 g f (by omega) (by omega) (by rw [y2.2, hf2])
          exact y2.1 (by rw [this]; exact c)
      · rw [if_neg c]
        refine ⟨fun r2 hr => ?_, fun e he => (by cases he)⟩
        rw [← Except.ok.inj hr]
        refine ⟨τ1, i1 f ?_, p2, p3⟩
        cases hz : g_fi (fun f => decide (¬ oth = some f ∧ u.2.2.1 0 f = r.1)) (u.1 0 0) 0 with
        | none =>
          exfalso
          have y := g_fi_none hz f (by omega) (by omega)
          rw [decide_eq_true (show ¬ oth = some f ∧ u.2.2.1 0 f = r.1 from ⟨c, hf2⟩)] at y
          cases y
        | some g =>
          have y := g_fi_some hz
          have y2 := of_decide_eq_true y.2.2
          have := hu.2.2.1 g f (by omega) (by omega) (by rw [y2.2, hf2])
          rw [this]

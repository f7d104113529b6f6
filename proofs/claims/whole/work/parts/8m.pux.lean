/-! An upland's text: the class. -/
def g_nf (L : List Nat) : Nat → Nat → Nat → Nat
  | 0, _, a => a
  | n + 1, j, a => g_nf L n (j + 1) (a * 32 + L.getD j 0)
theorem g_nf_nx (L : List Nat) : g_nf L 6 0 0 = g_nx L := rfl
theorem px_nl {σ : sw_St} {t : Nat → Nat} {N b : Nat} (h : px_rs σ t N b) (ht : ∀ i, t i < 256) (hN : N ≤ 1600) (hb : b ≤ N) (hk : 281 ≤ tk_k t N b ∧ tk_k t N b ≤ 287) : ∀ (n fuel j a : Nat), j + n = 6 → n < fuel → a < 32 ^ j → L_X6_takeName_68 fuel σ (nI a) (nI (tk_s t N b + j)) = (F_X6_advance σ).bind fun q1 => some (nI (g_nf (tk_nm t (tk_s t N b) (tk_e t N b - tk_s t N b)) n j a), q1.2)
  | 0, fuel + 1, j, a, hj, hf, ha => by
    have hss := tk_s_sp t hb
    show S_X6_takeName_68 _ σ (nI a) (nI (tk_s t N b + j)) = _
    unfold S_X6_takeName_68
    rw [h.2.2.1, show nI (tk_s t N b) + 6 = nI (tk_s t N b + 6) from nI_add _ 6, if_pos (nI_le (by omega) (by omega))]
    rfl
  | n + 1, fuel + 1, j, a, hj, hf, ha => by
    have hss := tk_s_sp t hb
    have hes := tk_e_sp t hb
    have hp : 32 ^ j ≤ 32 ^ 5 := Nat.pow_le_pow_right (by omega) (by omega)
    have e32 : (32 : Nat) ^ 5 = 33554432 := by decide
    have hps : 32 ^ (j + 1) = 32 ^ j * 32 := Nat.pow_succ _ _
    have hsh : nI a <<< ((5 : Int32) &&& 31) = nI (a * 32) := by
      have e := pk_shlN (n := a) ((5 : Int32) &&& 31) 5 (by decide) (by omega)
      rw [e]
    have ih := px_nl h ht hN hb hk n fuel (j + 1)
    show S_X6_takeName_68 _ σ (nI a) (nI (tk_s t N b + j)) = _
    unfold S_X6_takeName_68 S_X6_takeName_105
    rw [h.2.2.1, show nI (tk_s t N b) + 6 = nI (tk_s t N b + 6) from nI_add _ 6, if_neg (nI_ge (by omega) (by omega)), h.2.2.2, hsh, nI_1]
    have fin : ∀ v, v < 32 → (tk_nm t (tk_s t N b) (tk_e t N b - tk_s t N b)).getD j 0 = v → L_X6_takeName_68 fuel σ (nI (a * 32) ||| nI v) (nI (tk_s t N b + j + 1)) = (F_X6_advance σ).bind fun q1 => some (nI (g_nf (tk_nm t (tk_s t N b) (tk_e t N b - tk_s t N b)) (n + 1) j a), q1.2) := fun v hv e => by
      have eo := fa_or_sum (a := v) (k := 5) a (by omega)
      rw [show (2 : Nat) ^ 5 * a = a * 32 by omega] at eo
      have := ih (a * 32 + v) (by omega) (by omega) (by omega)
      rw [eo, Nat.add_assoc, this]
      show _ = (F_X6_advance σ).bind fun q1 => some (nI (g_nf _ n (j + 1) (a * 32 + (tk_nm t (tk_s t N b) (tk_e t N b - tk_s t N b)).getD j 0)), q1.2)
      rw [e]
    by_cases c : tk_e t N b ≤ tk_s t N b + j
    · rw [if_pos (nI_le c (by omega))]
      exact fin 0 (by omega) (tk_nm_hi (by omega))
    · have hl := tk_le_at ht hb hk (show tk_s t N b ≤ tk_s t N b + j by omega) (by omega)
      rw [if_neg (nI_ge (by omega) (by omega)), h.1.1]
      dsimp only [Option.bind_some]
      rw [if_pos sw_c1.1, sw_c1.2.2, if_pos (pz_inb (by omega) (by omega)), nI_clamp (by omega), h.1.2.1 _ (by omega), show sB (t (tk_s t N b + j)) = nI (t (tk_s t N b + j)) from (sB_c (by omega) (by omega)).mpr rfl, show nI (t (tk_s t N b + j)) - 97 + 1 = nI (t (tk_s t N b + j) - 96) from by
        rw [show (97 : Int32) = nI 97 from rfl, pk_sub (by omega), nI_1]
        congr 1
        omega]
      exact fin _ (by omega) (tk_nm_at (by omega))
theorem px_tname {σ : sw_St} {t : Nat → Nat} {N b : Nat} (h : px_rs σ t N b) (ht : ∀ i, t i < 256) (hN : N ≤ 1600) (hb : b ≤ N) : ∃ σ', match tk_name t N b with
    | .ok r => F_X6_takeName σ = some (nI (g_nx r.1), σ') ∧ px_rs σ' t N r.2 ∧ px_af σ σ'
    | .error e => F_X6_takeName σ = some (-1, σ') ∧ px_ff σ σ' e.1 e.2 := by
  have hkl := tk_k_lt ht N b
  have hes := tk_e_sp t hb
  have hss := tk_s_sp t hb
  have no : ∃ σ', S_X6_takeName_20 σ = some (-1, σ') ∧ px_ff σ σ' 1 (tk_s t N b) := by
    obtain ⟨σ', p1, p2⟩ := px_fail (σ := σ) (kd := 1) (pl := tk_s t N b)
    refine ⟨σ', ?_, p2⟩
    unfold S_X6_takeName_20
    rw [h.2.2.1, show F_X6_fail σ 1 (nI (tk_s t N b)) = _ from p1]
    rfl
  unfold tk_name F_X6_takeName
  rw [h.2.1]
  by_cases c : 281 ≤ tk_k t N b ∧ tk_k t N b ≤ 287
  · rw [if_pos c, if_neg (show ¬ nI (tk_k t N b) < 281 from nI_nlt (a := tk_k t N b) (b := 281) (by omega) (by omega)), if_pos (show nI (tk_k t N b) ≤ 287 from nI_le (b := 287) c.2 (by omega)), h.2.2.2, h.2.2.1, show nI (tk_e t N b) - nI (tk_s t N b) = nI (tk_e t N b - tk_s t N b) from pk_sub (by omega)]
    by_cases c1 : tk_e t N b - tk_s t N b ≤ 6
    · obtain ⟨σ', p1, p2, p3⟩ := px_adv h.1 ht hN hes.2.1 h.2.2.2
      have el := px_nl h ht hN hb c 6 sw_fuel 0 0 (by omega) (by have := sw_fuel_ge; omega) (by omega)
      rw [if_pos c1, if_pos (show nI (tk_e t N b - tk_s t N b) ≤ 6 from nI_le (b := 6) c1 (by omega)), show L_X6_takeName_68 sw_fuel σ 0 (nI (tk_s t N b)) = _ from el, p1]
      exact ⟨σ', rfl, p2, p3⟩
    · obtain ⟨σ', p1, p2⟩ := px_fail (σ := σ) (kd := 1) (pl := tk_s t N b + 6)
      rw [if_neg c1, if_neg (show ¬ nI (tk_e t N b - tk_s t N b) ≤ 6 from nI_ge (a := 6) (by omega) (by omega)), show nI (tk_s t N b) + 6 = nI (tk_s t N b + 6) from nI_add _ 6, show F_X6_fail σ 1 (nI (tk_s t N b + 6)) = _ from p1]
      exact ⟨σ', rfl, p2⟩
  · rw [if_neg c]
    obtain ⟨σ', p1, p2⟩ := no
    refine ⟨σ', ?_, p2⟩
    by_cases c1 : tk_k t N b < 281
    · rw [if_pos (show nI (tk_k t N b) < 281 from nI_lt (b := 281) c1 (by omega))]
      exact p1
    · rw [if_neg (show ¬ nI (tk_k t N b) < 281 from nI_nlt (a := tk_k t N b) (b := 281) (by omega) (by omega)), if_neg (show ¬ nI (tk_k t N b) ≤ 287 from nI_ge (a := 287) (by omega) (by omega))]
      exact p1
/-- the unfinished upland in the class's hands -/
def pu_X (σ : sw_St) (w : Nat) (u : g_U) (b : Nat) : Prop :=
  (w = 6 ∨ w = 19) ∧ σ.2.2 32 1 = some w ∧ σ.1 w 1 = nI (u.1 0 0) ∧ σ.1 w 2 = nI (u.1 0 1) ∧ σ.1 w 3 = nI (u.1 0 2) ∧ σ.1 w 4 = nI (u.1 0 3) ∧ σ.1 w 5 = nI u.2.2.2.1 ∧ σ.1 w 6 = nI u.2.2.2.2 ∧
  (∀ f, f < u.1 0 0 → σ.1 (w + 2) f = nI (u.1 1 f)) ∧ (∀ k, k < u.1 0 1 → σ.1 (w + 3) k = nI (u.1 2 (3 * k)) ∧ σ.1 (w + 4) k = nI (u.1 2 (3 * k + 1)) ∧ σ.1 (w + 5) k = nI (u.1 2 (3 * k + 2))) ∧ (∀ s, s < u.1 0 2 → σ.1 (w + 7) s = nI (u.1 3 (2 * s)) ∧ σ.1 (w + 8) s = nI (u.1 3 (2 * s + 1))) ∧ XN σ w u.1 u.2.2.1 ∧
  ∃ n0, σ.1 (w + 9) 1 = nI n0 ∧ n0 ≤ b + 5 ∧ ∀ j, j < 3 → ∃ a, σ.1 (w + 11) j = nI a ∧ σ.1 (w + 12) j = nI (a + (u.2.1 j).length) ∧ a + (u.2.1 j).length ≤ n0 ∧ ∀ i, i < (u.2.1 j).length → σ.1 (w + 10) (a + i) = nI (px_xc ((u.2.1 j).getD i 0))
theorem pu_X.mv {σ σ' : sw_St} {w b b' : Nat} {u : g_U} (h : pu_X σ w u b) (m : pz_sm [2] σ σ') (hb : b ≤ b') : pu_X σ' w u b' := by
  obtain ⟨hw, a1, a2, a3, a4, a5, a6, a7, a8, a9, a10, ⟨a11, a12⟩, n0, b1, b2, b3⟩ := h
  have n : ∀ j, w + j ∉ [2] := fun j => by simp; omega
  have r : ∀ j k, σ'.1 (w + j) k = σ.1 (w + j) k := fun j k => m.r (n j) k
  have r0 : ∀ k, σ'.1 w k = σ.1 w k := fun k => r 0 k
  refine ⟨hw, by rw [m.rR (by decide)]; exact a1, by rw [r0]; exact a2, by rw [r0]; exact a3, by rw [r0]; exact a4, by rw [r0]; exact a5, by rw [r0]; exact a6, by rw [r0]; exact a7, fun f hf => by rw [r]; exact a8 f hf, fun k hk => by rw [r, r, r]; exact a9 k hk, fun s hs => by rw [r, r]; exact a10 s hs, ⟨fun f hf => by rw [r]; exact a11 f hf, fun s hs => by rw [r]; exact a12 s hs⟩, n0, by rw [r]; exact b1, by omega, fun j hj => ?_⟩
  obtain ⟨a, c1, c2, c3, c4⟩ := b3 j hj
  exact ⟨a, by rw [r]; exact c1, by rw [r]; exact c2, c3, fun i hi => by rw [r]; exact c4 i hi⟩
def pu_S (w : Nat) : List Nat := [2, 32, w, w + 1, w + 2, w + 3, w + 4, w + 5, w + 6, w + 7, w + 8, w + 9, w + 10, w + 11, w + 12]
theorem px_af.S {σ σ' : sw_St} (w : Nat) (h : px_af σ σ') : pz_sm (pu_S w) σ σ' := h.1.mono (by unfold pu_S; simp)
theorem px_ff.S {σ σ' : sw_St} {kd pl : Nat} (w : Nat) (h : px_ff σ σ' kd pl) : pz_sm (pu_S w) σ σ' := h.1.mono (by unfold pu_S; simp)
theorem px_af.ff {σ σ1 σ' : sw_St} {kd pl : Nat} (h : px_af σ σ1) (g : px_ff σ1 σ' kd pl) : px_ff σ σ' kd pl := ⟨h.1.trans g.1, g.2.1, g.2.2.1, g.2.2.2.trans h.2.2.2.2⟩
theorem px_fnm {σ : sw_St} {w : Nat} {l : Nat → Nat → Nat} {nm : g_N} {v : List Nat} (hw : w = 6 ∨ w = 19) (h1 : σ.1 w 1 = nI (l 0 0)) (h8 : l 0 0 ≤ 8) (hn : ∀ f, f < l 0 0 → σ.1 (w + 1) f = nI (g_nx (nm 0 f))) (hk : ∀ f, f < l 0 0 → g_nk (nm 0 f)) (hv : g_nk v) : ∀ (n fuel i : Nat), i + n = l 0 0 → n < fuel → L_X9_fieldNamed_2 fuel σ w (nI (g_nx v)) (nI i) = some (oI (g_fi (fun f => decide (nm 0 f = v)) n i), σ)
  | 0, fuel + 1, i, hi, hf => by
    show S_X9_fieldNamed_2 _ σ w (nI (g_nx v)) (nI i) = _
    unfold S_X9_fieldNamed_2
    rw [if_pos (ld_O hw), h1, if_pos (nI_le (by omega) (by omega))]
    rfl
  | n + 1, fuel + 1, i, hi, hf => by
    have b1 := g_nx_lt (hk i (by omega))
    have b2 := g_nx_lt hv
    show S_X9_fieldNamed_2 _ σ w (nI (g_nx v)) (nI i) = _
    unfold S_X9_fieldNamed_2 g_fi
    rw [if_pos (ld_O hw), h1, if_neg (nI_ge (by omega) (by omega)), if_pos (ld_O hw), if_pos (ld_A1 hw), ld_n1 hw, if_pos (pz_inb (by omega) (by omega)), nI_clamp (by omega), hn i (by omega), nI_1]
    by_cases c : nm 0 i = v
    · rw [if_pos (by rw [c]), if_pos (decide_eq_true c)]
      rfl
    · rw [if_neg (fun y => c (g_nx_inj (hk i (by omega)) hv ((nI_eq (by omega) (by omega)).mp y))), if_neg (by simpa using c)]
      exact px_fnm hw h1 h8 hn hk hv n fuel (i + 1) (by omega) (by omega)
theorem px_snm {σ : sw_St} {w : Nat} {l : Nat → Nat → Nat} {nm : g_N} {v : List Nat} (hw : w = 6 ∨ w = 19) (h1 : σ.1 w 3 = nI (l 0 2)) (h8 : l 0 2 ≤ 6) (hn : ∀ f, f < l 0 2 → σ.1 (w + 6) f = nI (g_nx (nm 1 f))) (hk : ∀ f, f < l 0 2 → g_nk (nm 1 f)) (hv : g_nk v) : ∀ (n fuel i : Nat), i + n = l 0 2 → n < fuel → L_X9_sheepNamed_2 fuel σ w (nI (g_nx v)) (nI i) = some (oI (g_fi (fun f => decide (nm 1 f = v)) n i), σ)
  | 0, fuel + 1, i, hi, hf => by
    show S_X9_sheepNamed_2 _ σ w (nI (g_nx v)) (nI i) = _
    unfold S_X9_sheepNamed_2
    rw [if_pos (ld_O hw), h1, if_pos (nI_le (by omega) (by omega))]
    rfl
  | n + 1, fuel + 1, i, hi, hf => by
    have b1 := g_nx_lt (hk i (by omega))
    have b2 := g_nx_lt hv
    show S_X9_sheepNamed_2 _ σ w (nI (g_nx v)) (nI i) = _
    unfold S_X9_sheepNamed_2 g_fi
    rw [if_pos (ld_O hw), h1, if_neg (nI_ge (by omega) (by omega)), if_pos (ld_O hw), if_pos (ld_A6 hw), ld_n6 hw, if_pos (pz_inb (by omega) (by omega)), nI_clamp (by omega), hn i (by omega), nI_1]
    by_cases c : nm 1 i = v
    · rw [if_pos (by rw [c]), if_pos (decide_eq_true c)]
      rfl
    · rw [if_neg (fun y => c (g_nx_inj (hk i (by omega)) hv ((nI_eq (by omega) (by omega)).mp y))), if_neg (by simpa using c)]
      exact px_snm hw h1 h8 hn hk hv n fuel (i + 1) (by omega) (by omega)
theorem px_newName {σ : sw_St} {t : Nat → Nat} {N b w : Nat} {u : g_U} (hu : pu_ok u) (h : px_rs σ t N b) (hX : pu_X σ w u b) (ht : ∀ i, t i < 256) (hN : N ≤ 1600) (hb : b ≤ N) :
    (∀ r, pu_new t N u b = .ok r → ∃ σ', F_X3_newName σ = some (nI (g_nx r.1), σ') ∧ px_rs σ' t N r.2 ∧ px_af σ σ') ∧ (∀ e, pu_new t N u b = .error e → ∃ σ', F_X3_newName σ = some (-1, σ') ∧ px_ff σ σ' e.1 e.2) := by
  have hfu := sw_fuel_ge
  obtain ⟨σ1, p1⟩ := px_tname h ht hN hb
  unfold pu_new
  cases hn : tk_name t N b with
  | error e0 =>
    rw [hn] at p1
    (try dsimp only at p1)
    refine ⟨fun r hr => (by cases hr), fun e he => ?_⟩
    have he : (Except.error e0 : Except (Nat × Nat) (List Nat × Nat)) = .error e := he
    rw [← Except.error.inj he]
    refine ⟨σ1, ?_, p1.2⟩
    unfold F_X3_newName S_X3_newName_57
    rw [p1.1]
    dsimp only [Option.bind_some]
    rw [if_pos rfl]
  | ok r =>
    rw [hn] at p1
    (try dsimp only at p1)
    obtain ⟨q1, q2, q3⟩ := p1
    have hk := tk_name_ok ht hb hn
    have hX1 := hX.mv q3.1 (Nat.le_refl _)
    obtain ⟨hw, x1, x2, x3, x4, -, -, -, -, -, -, x11, -⟩ := hX1
    have l8 := hu.1.1
    have l6 := hu.1.2.2.1
    have e1 : F_X9_fieldNamed σ1 w (nI (g_nx r.1)) = some (oI (g_fn (u.2.2.1 0) r.1 (u.1 0 0)), σ1) := px_fnm hw x2 l8 x11.1 hu.2.1.1 hk.1 (u.1 0 0) sw_fuel 0 (by omega) (by omega)
    have e2 : F_X9_sheepNamed σ1 w (nI (g_nx r.1)) = some (oI (g_fn (u.2.2.1 1) r.1 (u.1 0 2)), σ1) := px_snm hw x4 l6 x11.2 hu.2.1.2 hk.1 (u.1 0 2) sw_fuel 0 (by omega) (by omega)
    have nb := g_nx_lt hk.1
    have bad : ∃ σ', S_X3_newName_45 σ1 (σ.1 2 3) = some (-1, σ') ∧ px_ff σ σ' 3 (tk_s t N b) := by
      obtain ⟨σ2, k1, k2⟩ := px_fail (σ := σ1) (kd := 3) (pl := tk_s t N b)
      refine ⟨σ2, ?_, q3.ff k2⟩
      unfold S_X3_newName_45
      rw [h.2.2.1, show F_X6_fail σ1 3 (nI (tk_s t N b)) = _ from k1]
      rfl
    have eF : F_X3_newName σ = if oI (g_fn (u.2.2.1 0) r.1 (u.1 0 0)) = -1 then (if oI (g_fn (u.2.2.1 1) r.1 (u.1 0 2)) = -1 then some (nI (g_nx r.1), σ1) else S_X3_newName_45 σ1 (σ.1 2 3)) else S_X3_newName_45 σ1 (σ.1 2 3) := by
      unfold F_X3_newName S_X3_newName_57
      rw [q1]
      dsimp only [Option.bind_some]
      rw [if_neg (pz_nm1 (by omega)), x1]
      dsimp only [Option.bind_some]
      rw [if_pos (ld_O hw), e1]
      dsimp only [Option.bind_some]
      rw [x1]
      dsimp only [Option.bind_some]
      rw [if_pos (ld_O hw), e2]
      rfl
    rw [eF]
    have er : ub (Except.ok r) (fun r => if g_fn (u.2.2.1 0) r.1 (u.1 0 0) = none ∧ g_fn (u.2.2.1 1) r.1 (u.1 0 2) = none then .ok r else .error (3, tk_s t N b)) = (if g_fn (u.2.2.1 0) r.1 (u.1 0 0) = none ∧ g_fn (u.2.2.1 1) r.1 (u.1 0 2) = none then .ok r else .error (3, tk_s t N b) : Except (Nat × Nat) (List Nat × Nat)) := rfl
    rw [er]
    cases h1 : g_fn (u.2.2.1 0) r.1 (u.1 0 0) with
    | some f =>
      obtain ⟨σ2, k1, k2⟩ := bad
      have hf := g_fi_some h1
      rw [if_neg (show ¬ ((some f : Option Nat) = none ∧ _) from fun y => (by cases y.1)), if_neg (show ¬ oI (some f) = -1 from pz_nm1 (by omega))]
      exact ⟨fun r hr => (by cases hr), fun e he => (by rw [← Except.error.inj he]; exact ⟨σ2, k1, k2⟩)⟩
    | none =>
      cases h2 : g_fn (u.2.2.1 1) r.1 (u.1 0 2) with
      | some f =>
        obtain ⟨σ2, k1, k2⟩ := bad
        have hf := g_fi_some h2
        rw [if_neg (show ¬ ((none : Option Nat) = none ∧ (some f : Option Nat) = none) from fun y => (by cases y.2)), if_pos (show oI none = -1 from rfl), if_neg (show ¬ oI (some f) = -1 from pz_nm1 (by omega))]
        exact ⟨fun r hr => (by cases hr), fun e he => (by rw [← Except.error.inj he]; exact ⟨σ2, k1, k2⟩)⟩
      | none =>
        rw [if_pos ⟨rfl, rfl⟩, if_pos (show oI none = -1 from rfl), if_pos (show oI none = -1 from rfl)]
        exact ⟨fun r2 hr => (by rw [← Except.ok.inj hr]; exact ⟨σ1, rfl, q2, q3⟩), fun e he => (by cases he)⟩
theorem px_known {σ : sw_St} {t : Nat → Nat} {N b w : Nat} {u : g_U} {oth : Option Nat} (hu : pu_ok u) (h : px_rs σ t N b) (hX : pu_X σ w u b) (ht : ∀ i, t i < 256) (hN : N ≤ 1600) (hb : b ≤ N) (ho : ∀ g, oth = some g → g < 8) :
    (∀ r, pu_kn t N u oth b = .ok r → ∃ σ', F_X3_knownField σ (oI oth) = some (nI r.1, σ') ∧ px_rs σ' t N r.2 ∧ px_af σ σ') ∧ (∀ e, pu_kn t N u oth b = .error e → ∃ σ', F_X3_knownField σ (oI oth) = some (-1, σ') ∧ px_ff σ σ' e.1 e.2) := by
  have hfu := sw_fuel_ge
  obtain ⟨σ1, p1⟩ := px_tname h ht hN hb
  unfold pu_kn
  cases hn : tk_name t N b with
  | error e0 =>
    rw [hn] at p1
    (try dsimp only at p1)
    refine ⟨fun r hr => (by cases hr), fun e he => ?_⟩
    have he : (Except.error e0 : Except (Nat × Nat) (Nat × Nat)) = .error e := he
    rw [← Except.error.inj he]
    refine ⟨σ1, ?_, p1.2⟩
    unfold F_X3_knownField
    rw [p1.1]
    dsimp only [Option.bind_some]
    rw [if_pos rfl]
  | ok r =>
    rw [hn] at p1
    (try dsimp only at p1)
    obtain ⟨q1, q2, q3⟩ := p1
    have hk := tk_name_ok ht hb hn
    have hX1 := hX.mv q3.1 (Nat.le_refl _)
    obtain ⟨hw, x1, x2, x3, x4, -, -, -, -, -, -, x11, -⟩ := hX1
    have l8 := hu.1.1
    have e1 : F_X9_fieldNamed σ1 w (nI (g_nx r.1)) = some (oI (g_fn (u.2.2.1 0) r.1 (u.1 0 0)), σ1) := px_fnm hw x2 l8 x11.1 hu.2.1.1 hk.1 (u.1 0 0) sw_fuel 0 (by omega) (by omega)
    have nb := g_nx_lt hk.1
    have bad : ∃ σ', S_X3_knownField_45 σ1 (σ.1 2 3) = some (-1, σ') ∧ px_ff σ σ' 3 (tk_s t N b) := by
      obtain ⟨σ2, k1, k2⟩ := px_fail (σ := σ1) (kd := 3) (pl := tk_s t N b)
      refine ⟨σ2, ?_, q3.ff k2⟩
      unfold S_X3_knownField_45
      rw [h.2.2.1, show F_X6_fail σ1 3 (nI (tk_s t N b)) = _ from k1]
      rfl
    have eF : F_X3_knownField σ (oI oth) = if oI (g_fn (u.2.2.1 0) r.1 (u.1 0 0)) = -1 then S_X3_knownField_45 σ1 (σ.1 2 3) else (if oI (g_fn (u.2.2.1 0) r.1 (u.1 0 0)) = oI oth then S_X3_knownField_45 σ1 (σ.1 2 3) else some (oI (g_fn (u.2.2.1 0) r.1 (u.1 0 0)), σ1)) := by
      unfold F_X3_knownField
      rw [q1]
      dsimp only [Option.bind_some]
      rw [if_neg (pz_nm1 (by omega)), x1]
      dsimp only [Option.bind_some]
      rw [if_pos (ld_O hw), e1]
      rfl
    rw [eF]
    cases h1 : g_fn (u.2.2.1 0) r.1 (u.1 0 0) with
    | none =>
      obtain ⟨σ2, k1, k2⟩ := bad
      have er : ub (Except.ok r) (fun r => pu_kf oth (tk_s t N b) r.2 (g_fn (u.2.2.1 0) r.1 (u.1 0 0))) = (.error (3, tk_s t N b) : Except (Nat × Nat) (Nat × Nat)) := by
        unfold ub
        dsimp only
        rw [h1]
        rfl
      rw [er, if_pos (show oI none = -1 from rfl)]
      exact ⟨fun r hr => (by cases hr), fun e he => (by rw [← Except.error.inj he]; exact ⟨σ2, k1, k2⟩)⟩
    | some f =>
      have hf := g_fi_some h1
      have er : ub (Except.ok r) (fun r => pu_kf oth (tk_s t N b) r.2 (g_fn (u.2.2.1 0) r.1 (u.1 0 0))) = (if oth = some f then .error (3, tk_s t N b) else .ok (f, r.2) : Except (Nat × Nat) (Nat × Nat)) := by
        unfold ub
        dsimp only
        rw [h1]
        rfl
      rw [er, if_neg (show ¬ oI (some f) = -1 from pz_nm1 (by omega))]
      by_cases c : oth = some f
      · obtain ⟨σ2, k1, k2⟩ := bad
        rw [if_pos c, if_pos (by rw [c])]
        exact ⟨fun r hr => (by cases hr), fun e he => (by rw [← Except.error.inj he]; exact ⟨σ2, k1, k2⟩)⟩
      · have nc : ¬ oI (some f) = oI oth := fun y => by
          cases ho2 : oth with
          | none =>
            rw [ho2] at y
            exact pz_nm1 (n := f) (by omega) y
          | some g =>
            rw [ho2] at y c
            have hg := ho g ho2
            have y : nI f = nI g := y
            rw [nI_eq (by omega) (by omega)] at y
            exact c (by rw [y])
        rw [if_neg c, if_neg nc]
        exact ⟨fun r2 hr => (by rw [← Except.ok.inj hr]; exact ⟨σ1, rfl, q2, q3⟩), fun e he => (by cases he)⟩

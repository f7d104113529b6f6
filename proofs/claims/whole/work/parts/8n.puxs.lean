/-! Statements of an upland: the class. -/
def px_uc (t : Nat → Nat) (N w : Nat) (u : g_U) (f : sw_St → Option (Int32 × sw_St)) (b : Nat) (r : uR) : Prop := ∀ σ, px_rs σ t N b → pu_X σ w u b →
  (∀ q, r = .ok q → ∃ σ', f σ = some (1, σ') ∧ px_rs σ' t N q.2 ∧ pu_X σ' w q.1 q.2 ∧ pz_sm (pu_S w) σ σ' ∧ (σ'.1 2 5 = σ.1 2 5 ∧ σ'.1 2 6 = σ.1 2 6)) ∧
  (∀ e, r = .error e → ∃ σ', f σ = some (0, σ') ∧ pz_sm (pu_S w) σ σ' ∧ σ'.1 2 5 = nI e.1 ∧ σ'.1 2 6 = nI e.2)
theorem px_uc.sq {α : Type} {t : Nat → Nat} {N w b : Nat} {u : g_U} {r1 : Except (Nat × Nat) α} {k : α → uR} {bh : α → Nat} {f : sw_St → Option (Int32 × sw_St)} {g : α → sw_St → Option (Int32 × sw_St)} (h1 : ∀ σ, px_rs σ t N b → pu_X σ w u b → (∀ q, r1 = .ok q → ∃ σ', f σ = g q σ' ∧ px_rs σ' t N (bh q) ∧ px_af σ σ') ∧ (∀ e, r1 = .error e → ∃ σ', f σ = some (0, σ') ∧ px_ff σ σ' e.1 e.2)) (h2 : ∀ q, r1 = .ok q → b ≤ bh q ∧ px_uc t N w u (g q) (bh q) (k q)) : px_uc t N w u f b (ub r1 k) := by
  intro σ hs hX
  obtain ⟨a1, a2⟩ := h1 σ hs hX
  cases hr : r1 with
  | error e0 =>
    refine ⟨fun q hq => (by cases hq), fun e he => ?_⟩
    have he : (Except.error e0 : uR) = .error e := he
    rw [← Except.error.inj he]
    obtain ⟨σ', p1, p2⟩ := a2 e0 hr
    exact ⟨σ', p1, p2.S w, p2.2.1, p2.2.2.1⟩
  | ok q1 =>
    obtain ⟨σ1, p1, p2, p3⟩ := a1 q1 hr
    obtain ⟨hb, hg⟩ := h2 q1 hr
    obtain ⟨c1, c2⟩ := hg σ1 p2 (hX.mv p3.1 hb)
    rw [p1]
    refine ⟨fun q hq => ?_, fun e he => ?_⟩
    · have hq : k q1 = .ok q := hq
      obtain ⟨σ', d1, d2, d3, d4, d5⟩ := c1 q hq
      exact ⟨σ', d1, d2, d3, (p3.S w).trans d4, by rw [d5.1]; exact p3.2.2.1, by rw [d5.2]; exact p3.2.2.2.1⟩
    · have he : k q1 = .error e := he
      obtain ⟨σ', d1, d2, d3, d4⟩ := c2 e he
      exact ⟨σ', d1, (p3.S w).trans d2, d3, d4⟩
theorem px_uc.ad {t : Nat → Nat} {N w b : Nat} {u : g_U} {r : uR} {f g : sw_St → Option (Int32 × sw_St)} (ht : ∀ i, t i < 256) (hN : N ≤ 1600) (hb : b ≤ N) (h1 : ∀ σ σ', px_rs σ t N b → pu_X σ w u b → F_X6_advance σ = some ((), σ') → f σ = g σ') (hg : px_uc t N w u g (tk_e t N b) r) : px_uc t N w u f b r := by
  have hss := tk_s_sp t hb
  have hes := tk_e_sp t hb
  have e : px_uc t N w u f b (ub (Except.ok ()) (fun _ => r)) := px_uc.sq (g := fun _ => g) (bh := fun _ => tk_e t N b) (fun σ hs hX => by
    obtain ⟨σ', q1, q2, q3⟩ := px_adv hs.1 ht hN hes.2.1 hs.2.2.2
    exact ⟨fun q _ => ⟨σ', h1 σ σ' hs hX q1, q2, q3⟩, fun e he => (by cases he)⟩) (fun q _ => ⟨by omega, hg⟩)
  exact e
theorem px_uc.ex {t : Nat → Nat} {N w b kd : Nat} {u : g_U} {k : Nat → uR} {f g : sw_St → Option (Int32 × sw_St)} (ht : ∀ i, t i < 256) (hN : N ≤ 1600) (hb : b ≤ N) (hkd : kd ≤ 302) (h0 : ∀ σ σ', F_X6_expect σ (nI kd) = some (0, σ') → f σ = some (0, σ')) (h1 : ∀ σ σ', F_X6_expect σ (nI kd) = some (1, σ') → f σ = g σ') (hg : px_uc t N w u g (tk_e t N b) (k (tk_e t N b))) : px_uc t N w u f b (pu_exp t N kd b k) := by
  have hss := tk_s_sp t hb
  have hes := tk_e_sp t hb
  have e : px_uc t N w u f b (ub (if tk_k t N b = kd then Except.ok () else Except.error (1, tk_s t N b)) (fun _ => k (tk_e t N b))) := px_uc.sq (g := fun _ => g) (bh := fun _ => tk_e t N b) (fun σ hs hX => by
    obtain ⟨σ', q1, q2⟩ := px_expect (kd := kd) hs ht hN hb hkd
    by_cases c : tk_k t N b = kd
    · obtain ⟨r1, r2, r3⟩ := q1 c
      rw [if_pos c]
      exact ⟨fun q _ => ⟨σ', h1 σ σ' r1, r2, r3⟩, fun e he => (by cases he)⟩
    · obtain ⟨r1, r2⟩ := q2 c
      rw [if_neg c]
      exact ⟨fun q hq => (by cases hq), fun e he => (by rw [← Except.error.inj he]; exact ⟨σ', h0 σ σ' r1, r2⟩)⟩) (fun q _ => ⟨by omega, hg⟩)
  unfold pu_exp
  by_cases c : tk_k t N b = kd
  · rw [if_pos c] at e ⊢
    exact e
  · rw [if_neg c] at e ⊢
    exact e
theorem px_uc.er {t : Nat → Nat} {N w b : Nat} {u : g_U} {e0 : Nat × Nat} {f : sw_St → Option (Int32 × sw_St)} (h : ∀ σ, px_rs σ t N b → pu_X σ w u b → ∃ σ', f σ = some (0, σ') ∧ px_ff σ σ' e0.1 e0.2) : px_uc t N w u f b (.error e0) := fun σ hs hX => by
  obtain ⟨σ', p1, p2⟩ := h σ hs hX
  exact ⟨fun q hq => (by cases hq), fun e he => (by rw [← Except.error.inj he]; exact ⟨σ', p1, p2.S w, p2.2.1, p2.2.2.1⟩)⟩
theorem px_tnum2 {σ : sw_St} {t : Nat → Nat} {N b lo lim : Nat} {x2 : Int32} (h : px_rs σ t N b) (ht : ∀ i, t i < 256) (hN : N ≤ 1600) (hb : b ≤ N) (hlo : lo < 2 ^ 31) (hlim : x2.toInt = (lim : Int) - 1) :
    (∀ r, tk_num t N lo lim b = .ok r → ∃ σ', F_X6_takeNumber σ (nI lo) x2 = some (nI r.1, σ') ∧ px_rs σ' t N r.2 ∧ px_af σ σ' ∧ r.1 < 10000) ∧ (∀ e, tk_num t N lo lim b = .error e → ∃ σ', F_X6_takeNumber σ (nI lo) x2 = some (-1, σ') ∧ px_ff σ σ' e.1 e.2) := by
  obtain ⟨σ', p⟩ := px_tnum h ht hN hb hlo hlim
  cases hn : tk_num t N lo lim b with
  | error e0 =>
    rw [hn] at p
    (try dsimp only at p)
    exact ⟨fun r hr => (by cases hr), fun e he => (by rw [← Except.error.inj he]; exact ⟨σ', p⟩)⟩
  | ok r0 =>
    rw [hn] at p
    (try dsimp only at p)
    exact ⟨fun r hr => (by rw [← Except.ok.inj hr]; exact ⟨σ', p.1, p.2.1, p.2.2.1, p.2.2.2.1⟩), fun e he => (by cases he)⟩
theorem px_rs.mvS {σ σ' : sw_St} {t : Nat → Nat} {N b : Nat} {S : List Nat} (h : px_rs σ t N b) (m : pz_sm S σ σ') (h1 : 1 ∉ S) (h2 : 2 ∉ S) : px_rs σ' t N b := by
  obtain ⟨⟨b1, b2, b3⟩, b4, b5, b6⟩ := h
  exact ⟨⟨by rw [m.rR h2]; exact b1, fun i hi => by rw [m.r h1]; exact b2 i hi, by rw [m.r h2]; exact b3⟩, by rw [m.r h2]; exact b4, by rw [m.r h2]; exact b5, by rw [m.r h2]; exact b6⟩
theorem px_fl5 {σ : sw_St} {t : Nat → Nat} {N b : Nat} (hs : px_rs σ t N b) : ∃ σ', ((F_X6_fail σ 5 (σ.1 2 3)).bind fun q18 => if q18.1 = 0 ∨ q18.1 = 1 then some (q18.1, q18.2) else none) = some (0, σ') ∧ px_ff σ σ' 5 (tk_s t N b) := by
  obtain ⟨σ', p1, p2⟩ := px_fail (σ := σ) (kd := 5) (pl := tk_s t N b)
  refine ⟨σ', ?_, p2⟩
  rw [hs.2.2.1, show F_X6_fail σ 5 (nI (tk_s t N b)) = _ from p1]
  dsimp only [Option.bind_some]
  rw [if_pos (Or.inl rfl)]
/-! a field -/
noncomputable def px_wF (k x4 : Int32) (q6 : Int32 × sw_St) : Option (Int32 × sw_St) := ((q6.2.2.2 32 1).bind fun w7 => (if sw_isO sw_gX w7 9 = true then (if sw_isA sw_gX (w7 + 1) 0 = true then (if sw_inb k (sw_ln sw_gX (w7 + 1)) = true then ((q6.2.2.2 32 1).bind fun w11 => (if sw_isO sw_gX w11 9 = true then (if sw_isA sw_gX (w11 + 2) 0 = true then (if sw_inb k (sw_ln sw_gX (w11 + 2)) = true then ((q6.2.2.2 32 1).bind fun w15 => (if sw_isO sw_gX w15 9 = true then (if sw_isO sw_gX w15 9 = true then (some (1, (sw_uI (sw_uI (sw_uI q6.2 (w7 + 1) k.toNatClampNeg x4) (w11 + 2) k.toNatClampNeg q6.1) w15 1 (((sw_uI (sw_uI q6.2 (w7 + 1) k.toNatClampNeg x4) (w11 + 2) k.toNatClampNeg q6.1).1 w15 1) + 1)))) else none) else none)) else none) else none) else none)) else none) else none) else none))
theorem px_wF_ok {σ : sw_St} {w k : Nat} {x4 x6 : Int32} (hw : w = 6 ∨ w = 19) (h32 : σ.2.2 32 1 = some w) (h1 : σ.1 w 1 = nI k) (hk : k < 8) : px_wF (nI k) x4 (x6, σ) = some (1, sw_uI (sw_uI (sw_uI σ (w + 1) k x4) (w + 2) k x6) w 1 (nI (k + 1))) := by
  unfold px_wF
  simp only [h32, Option.bind_some, ld_O hw, ld_C hw, ld_A1 hw, ld_n1 hw, ld_A2 hw, ld_n2 hw, ld_A3 hw, ld_n3 hw, ld_A4 hw, ld_n4 hw, ld_A5 hw, ld_n5 hw, ld_A6 hw, ld_n6 hw, ld_A7 hw, ld_n7 hw, ld_A8 hw, ld_n8 hw, ld_A10 hw, ld_n10 hw, ld_A11 hw, ld_n11 hw, ld_A12 hw, ld_n12 hw, ld_A10' hw, ld_n10' hw, if_true, pz_inb hk (show 8 < 2 ^ 31 by omega), nI_clamp (show k < 2 ^ 31 by omega)]
  rw [pz_Io (by omega), pz_Io (by omega), h1, nI_1]
theorem pu_X_f {σ : sw_St} {w b b' x : Nat} {u : g_U} {v : List Nat} (hX : pu_X σ w u b) (hb : b ≤ b') : pu_X (sw_uI (sw_uI (sw_uI σ (w + 1) (u.1 0 0) (nI (g_nx v))) (w + 2) (u.1 0 0) (nI x)) w 1 (nI (u.1 0 0 + 1))) w (u_f u v x) b' ∧ pz_sm [w, w + 1, w + 2] σ (sw_uI (sw_uI (sw_uI σ (w + 1) (u.1 0 0) (nI (g_nx v))) (w + 2) (u.1 0 0) (nI x)) w 1 (nI (u.1 0 0 + 1))) := by
  obtain ⟨hw, a1, a2, a3, a4, a5, a6, a7, a8, a9, a10, ⟨a11, a12⟩, n0, b1, b2, b3⟩ := hX
  obtain ⟨e1, e2, e3, e4, e5⟩ := u_f_el (u := u) (v := v) (x := x)
  have m : pz_sm [w, w + 1, w + 2] σ (sw_uI (sw_uI (sw_uI σ (w + 1) (u.1 0 0) (nI (g_nx v))) (w + 2) (u.1 0 0) (nI x)) w 1 (nI (u.1 0 0 + 1))) := (((pz_sm.refl _ σ).I (by simp) _ _).I (by simp) _ _).I (by simp) _ _
  have q0 : (sw_uI (sw_uI (sw_uI σ (w + 1) (u.1 0 0) (nI (g_nx v))) (w + 2) (u.1 0 0) (nI x)) w 1 (nI (u.1 0 0 + 1))).1 w 1 = nI (u.1 0 0 + 1) := pz_Ie rfl rfl
  have r0 : ∀ k, k ≠ 1 → (sw_uI (sw_uI (sw_uI σ (w + 1) (u.1 0 0) (nI (g_nx v))) (w + 2) (u.1 0 0) (nI x)) w 1 (nI (u.1 0 0 + 1))).1 w k = σ.1 w k := fun k hk => by rw [pz_Ik hk, pz_Io (by omega), pz_Io (by omega)]
  have r1 : ∀ f, (sw_uI (sw_uI (sw_uI σ (w + 1) (u.1 0 0) (nI (g_nx v))) (w + 2) (u.1 0 0) (nI x)) w 1 (nI (u.1 0 0 + 1))).1 (w + 1) f = if f = u.1 0 0 then nI (g_nx v) else σ.1 (w + 1) f := fun f => by
    rw [pz_Io (by omega), pz_Io (by omega)]
    by_cases c : f = u.1 0 0
    · rw [if_pos c, pz_Ie rfl c]
    · rw [if_neg c, pz_Ik c]
  have r2 : ∀ f, (sw_uI (sw_uI (sw_uI σ (w + 1) (u.1 0 0) (nI (g_nx v))) (w + 2) (u.1 0 0) (nI x)) w 1 (nI (u.1 0 0 + 1))).1 (w + 2) f = if f = u.1 0 0 then nI x else σ.1 (w + 2) f := fun f => by
    rw [pz_Io (by omega)]
    by_cases c : f = u.1 0 0
    · rw [if_pos c, pz_Ie rfl c]
    · rw [if_neg c, pz_Ik c, pz_Io (by omega)]
  generalize hg2 : sw_uI (sw_uI (sw_uI σ (w + 1) (u.1 0 0) (nI (g_nx v))) (w + 2) (u.1 0 0) (nI x)) w 1 (nI (u.1 0 0 + 1)) = σ2 at m q0 r0 r1 r2
  have r : ∀ j k, 3 ≤ j → σ2.1 (w + j) k = σ.1 (w + j) k := fun j k hj => m.r (by simp; omega) k
  refine ⟨⟨hw, by rw [m.rR (by simp; omega)]; exact a1, by rw [e1]; exact q0, by rw [r0 _ (by decide), e2 0 1 (by decide) (by decide)]; exact a3, by rw [r0 _ (by decide), e2 0 2 (by decide) (by decide)]; exact a4, by rw [r0 _ (by decide), e2 0 3 (by decide) (by decide)]; exact a5, by rw [r0 _ (by decide)]; exact a6, by rw [r0 _ (by decide)]; exact a7, fun f hf => ?_, fun k hk => ?_, fun s hs => ?_, ⟨fun f hf => ?_, fun s hs => ?_⟩, n0, by rw [r 9 _ (by decide)]; exact b1, by omega, fun j hj => ?_⟩, m⟩
  · rw [r2, e3]
    rw [e1] at hf
    by_cases c : f = u.1 0 0
    · rw [if_pos c, if_pos c]
    · rw [if_neg c, if_neg c]
      exact a8 f (by omega)
  · rw [e2 0 1 (by decide) (by decide)] at hk
    rw [r 3 _ (by decide), r 4 _ (by decide), r 5 _ (by decide), e2 2 _ (by decide) (Or.inl (by decide)), e2 2 _ (by decide) (Or.inl (by decide)), e2 2 _ (by decide) (Or.inl (by decide))]
    exact a9 k hk
  · rw [e2 0 2 (by decide) (by decide)] at hs
    rw [r 7 _ (by decide), r 8 _ (by decide), e2 3 _ (by decide) (Or.inl (by decide)), e2 3 _ (by decide) (Or.inl (by decide))]
    exact a10 s hs
  · rw [r1, e5]
    rw [e1] at hf
    by_cases c : f = u.1 0 0
    · rw [if_pos c, if_pos c]
    · rw [if_neg c, if_neg c]
      exact a11 f (by omega)
  · rw [e2 0 2 (by decide) (by decide)] at hs
    rw [r 6 _ (by decide), e4]
    exact a12 s hs
  · obtain ⟨a, c1, c2, c3, c4⟩ := b3 j hj
    exact ⟨a, by rw [r 11 _ (by decide)]; exact c1, by rw [r 12 _ (by decide)]; exact c2, c3, fun i hi => by rw [r 10 _ (by decide)]; exact c4 i hi⟩
theorem px_uf {t : Nat → Nat} {N w b : Nat} {u : g_U} (hu : pu_ok u) (ht : ∀ i, t i < 256) (hN : N ≤ 1600) (hb : b ≤ N) : px_uc t N w u (fun σ => F_X3_fieldStatement σ) b (pu_field t N u b) := by
  have l8 := hu.1.1
  have hes := tk_e_sp t hb
  have hss := tk_s_sp t hb
  unfold pu_field
  by_cases c : u.1 0 0 < 8
  · rw [if_pos c]
    refine px_uc.ad (g := fun σ => (F_X3_newName σ).bind fun q4 => if q4.1 = (-1) then (S_X3_fieldStatement_60 q4.2) else ((F_X6_expect q4.2 257).bind fun q5 => if q5.1 = 0 then (S_X3_fieldStatement_60 q5.2) else ((F_X6_takeNumber q5.2 0 9).bind fun q6 => if q6.1 = (-1) then (some (0, q6.2)) else px_wF (nI (u.1 0 0)) q4.1 q6))) ht hN hb (fun σ σ' hs hX e => ?_) ?_
    · unfold F_X3_fieldStatement
      rw [hX.2.1]
      dsimp only [Option.bind_some]
      rw [if_pos (ld_O hX.1), hX.2.2.1, if_pos (show nI (u.1 0 0) < 8 from nI_lt (b := 8) c (by omega)), e]
      rfl
    · refine px_uc.sq (bh := fun r => r.2) (g := fun r σ => (F_X6_expect σ 257).bind fun q5 => if q5.1 = 0 then (S_X3_fieldStatement_60 q5.2) else ((F_X6_takeNumber q5.2 0 9).bind fun q6 => if q6.1 = (-1) then (some (0, q6.2)) else px_wF (nI (u.1 0 0)) (nI (g_nx r.1)) q6)) (fun σ hs hX => ?_) (fun r1 hr1 => ?_)
      · obtain ⟨p1, p2⟩ := px_newName hu hs hX ht hN hes.2.1
        refine ⟨fun q hq => ?_, fun e he => ?_⟩
        · obtain ⟨σ', k1, k2, k3⟩ := p1 q hq
          have nb := g_nx_lt (pu_new_ok ht hes.2.1 hq).1
          refine ⟨σ', ?_, k2, k3⟩
          rw [k1]
          dsimp only [Option.bind_some]
          rw [if_neg (pz_nm1 (by omega))]
        · obtain ⟨σ', k1, k2⟩ := p2 e he
          refine ⟨σ', ?_, k2⟩
          rw [k1]
          dsimp only [Option.bind_some]
          rw [if_pos rfl]
          rfl
      · have f1 := pu_new_ok ht hes.2.1 hr1
        have hes1 := tk_e_sp t f1.2.2.1
        have hss1 := tk_s_sp t f1.2.2.1
        refine ⟨by omega, ?_⟩
        refine px_uc.ex (g := fun σ => (F_X6_takeNumber σ 0 9).bind fun q6 => if q6.1 = (-1) then (some (0, q6.2)) else px_wF (nI (u.1 0 0)) (nI (g_nx r1.1)) q6) ht hN f1.2.2.1 (by decide) (fun σ σ' e => ?_) (fun σ σ' e => ?_) ?_
        · rw [show F_X6_expect σ 257 = _ from e]
          rfl
        · rw [show F_X6_expect σ 257 = _ from e]
          dsimp only [Option.bind_some]
          rw [if_neg pz_10]
        · refine px_uc.sq (bh := fun r => r.2) (g := fun r σ => px_wF (nI (u.1 0 0)) (nI (g_nx r1.1)) (nI r.1, σ)) (fun σ hs hX => ?_) (fun r3 hr3 => ?_)
          · obtain ⟨p1, p2⟩ := px_tnum2 (lo := 0) (lim := 10) (x2 := 9) hs ht hN hes1.2.1 (by decide) (by decide)
            refine ⟨fun q hq => ?_, fun e he => ?_⟩
            · obtain ⟨σ', k1, k2, k3, k4⟩ := p1 q hq
              refine ⟨σ', ?_, k2, k3⟩
              rw [show F_X6_takeNumber σ 0 9 = _ from k1]
              dsimp only [Option.bind_some]
              rw [if_neg (pz_nm1 (by omega))]
            · obtain ⟨σ', k1, k2⟩ := p2 e he
              refine ⟨σ', ?_, k2⟩
              rw [show F_X6_takeNumber σ 0 9 = _ from k1]
              dsimp only [Option.bind_some]
              rw [if_pos rfl]
          · have f3 := tk_num_ok hes1.2.1 hr3
            refine ⟨by omega, fun σ hs hX => ⟨fun q hq => ?_, fun e he => (by cases he)⟩⟩
            rw [← Except.ok.inj hq]
            obtain ⟨x1, x2⟩ := pu_X_f (v := r1.1) (x := r3.1) hX (Nat.le_refl r3.2)
            have hw := hX.1
            exact ⟨_, px_wF_ok hX.1 hX.2.1 hX.2.2.1 c, hs.mvS x2 (by simp; omega) (by simp; omega), x1, x2.mono (by unfold pu_S; simp), by rw [x2.r (by simp; omega)], by rw [x2.r (by simp; omega)]⟩
  · rw [if_neg c]
    refine px_uc.er (fun σ hs hX => ?_)
    obtain ⟨σ', p1, p2⟩ := px_fl5 hs
    refine ⟨σ', ?_, p2⟩
    unfold F_X3_fieldStatement
    rw [hX.2.1]
    dsimp only [Option.bind_some]
    rw [if_pos (ld_O hX.1), hX.2.2.1, if_neg (show ¬ nI (u.1 0 0) < 8 from nI_nlt (a := u.1 0 0) (b := 8) (by omega) (by omega))]
    exact p1
/-! a gap -/
noncomputable def px_wG (k x4 x6 : Int32) (q8 : Int32 × sw_St) : Option (Int32 × sw_St) := ((q8.2.2.2 32 1).bind fun w9 => (if sw_isO sw_gX w9 9 = true then (if sw_isA sw_gX (w9 + 3) 0 = true then (if sw_inb k (sw_ln sw_gX (w9 + 3)) = true then ((q8.2.2.2 32 1).bind fun w13 => (if sw_isO sw_gX w13 9 = true then (if sw_isA sw_gX (w13 + 4) 0 = true then (if sw_inb k (sw_ln sw_gX (w13 + 4)) = true then ((q8.2.2.2 32 1).bind fun w17 => (if sw_isO sw_gX w17 9 = true then (if sw_isA sw_gX (w17 + 5) 0 = true then (if sw_inb k (sw_ln sw_gX (w17 + 5)) = true then ((q8.2.2.2 32 1).bind fun w21 => (if sw_isO sw_gX w21 9 = true then (if sw_isO sw_gX w21 9 = true then ((q8.2.2.2 32 1).bind fun w24 => (if sw_isO sw_gX w24 9 = true then (if sw_isO sw_gX w24 9 = true then (some (1, (sw_uI (sw_uI (sw_uI (sw_uI (sw_uI q8.2 (w9 + 3) k.toNatClampNeg x4) (w13 + 4) k.toNatClampNeg x6) (w17 + 5) k.toNatClampNeg q8.1) w21 5 (((sw_uI (sw_uI (sw_uI q8.2 (w9 + 3) k.toNatClampNeg x4) (w13 + 4) k.toNatClampNeg x6) (w17 + 5) k.toNatClampNeg q8.1).1 w21 5) ||| ((1 : Int32) <<< (k &&& 31)))) w24 2 (((sw_uI (sw_uI (sw_uI (sw_uI q8.2 (w9 + 3) k.toNatClampNeg x4) (w13 + 4) k.toNatClampNeg x6) (w17 + 5) k.toNatClampNeg q8.1) w21 5 (((sw_uI (sw_uI (sw_uI q8.2 (w9 + 3) k.toNatClampNeg x4) (w13 + 4) k.toNatClampNeg x6) (w17 + 5) k.toNatClampNeg q8.1).1 w21 5) ||| ((1 : Int32) <<< (k &&& 31)))).1 w24 2) + 1)))) else none) else none)) else none) else none)) else none) else none) else none)) else none) else none) else none)) else none) else none) else none))
theorem px_wG_ok {σ : sw_St} {w k op : Nat} {x4 x6 x8 : Int32} (hw : w = 6 ∨ w = 19) (h32 : σ.2.2 32 1 = some w) (h2 : σ.1 w 2 = nI k) (h5 : σ.1 w 5 = nI op) (hk : k < 10) : px_wG (nI k) x4 x6 (x8, σ) = some (1, sw_uI (sw_uI (sw_uI (sw_uI (sw_uI σ (w + 3) k x4) (w + 4) k x6) (w + 5) k x8) w 5 (nI (op ||| 2 ^ k))) w 2 (nI (k + 1))) := by
  unfold px_wG
  simp only [h32, Option.bind_some, ld_O hw, ld_C hw, ld_A1 hw, ld_n1 hw, ld_A2 hw, ld_n2 hw, ld_A3 hw, ld_n3 hw, ld_A4 hw, ld_n4 hw, ld_A5 hw, ld_n5 hw, ld_A6 hw, ld_n6 hw, ld_A7 hw, ld_n7 hw, ld_A8 hw, ld_n8 hw, ld_A10 hw, ld_n10 hw, ld_A11 hw, ld_n11 hw, ld_A12 hw, ld_n12 hw, ld_A10' hw, ld_n10' hw, if_true, pz_inb hk (show 10 < 2 ^ 31 by omega), nI_clamp (show k < 2 ^ 31 by omega), pz_Io (show w ≠ w + 5 by omega), pz_Io (show w ≠ w + 4 by omega), pz_Io (show w ≠ w + 3 by omega), pz_Ik (show (2 : Nat) ≠ 5 by decide), h5, h2, pz_shl (show k < 31 by omega), fa_or, nI_1]
theorem pu_X_g {σ : sw_St} {w b b' x y z : Nat} {u : g_U} (hX : pu_X σ w u b) (hb : b ≤ b') : pu_X (sw_uI (sw_uI (sw_uI (sw_uI (sw_uI σ (w + 3) (u.1 0 1) (nI x)) (w + 4) (u.1 0 1) (nI y)) (w + 5) (u.1 0 1) (nI z)) w 5 (nI (u.2.2.2.1 ||| 2 ^ u.1 0 1))) w 2 (nI (u.1 0 1 + 1))) w (u_g u x y z) b' ∧ pz_sm [w, w + 3, w + 4, w + 5] σ (sw_uI (sw_uI (sw_uI (sw_uI (sw_uI σ (w + 3) (u.1 0 1) (nI x)) (w + 4) (u.1 0 1) (nI y)) (w + 5) (u.1 0 1) (nI z)) w 5 (nI (u.2.2.2.1 ||| 2 ^ u.1 0 1))) w 2 (nI (u.1 0 1 + 1))) := by
  obtain ⟨hw, a1, a2, a3, a4, a5, a6, a7, a8, a9, a10, ⟨a11, a12⟩, n0, b1, b2, b3⟩ := hX
  obtain ⟨e1, e2, e3, e4, e5, e6⟩ := u_g_el (u := u) (a := x) (c := y) (m := z)
  have m : pz_sm [w, w + 3, w + 4, w + 5] σ (sw_uI (sw_uI (sw_uI (sw_uI (sw_uI σ (w + 3) (u.1 0 1) (nI x)) (w + 4) (u.1 0 1) (nI y)) (w + 5) (u.1 0 1) (nI z)) w 5 (nI (u.2.2.2.1 ||| 2 ^ u.1 0 1))) w 2 (nI (u.1 0 1 + 1))) := (((((pz_sm.refl _ σ).I (by simp) _ _).I (by simp) _ _).I (by simp) _ _).I (by simp) _ _).I (by simp) _ _
  have q0 : (sw_uI (sw_uI (sw_uI (sw_uI (sw_uI σ (w + 3) (u.1 0 1) (nI x)) (w + 4) (u.1 0 1) (nI y)) (w + 5) (u.1 0 1) (nI z)) w 5 (nI (u.2.2.2.1 ||| 2 ^ u.1 0 1))) w 2 (nI (u.1 0 1 + 1))).1 w 2 = nI (u.1 0 1 + 1) := pz_Ie rfl rfl
  have q5 : (sw_uI (sw_uI (sw_uI (sw_uI (sw_uI σ (w + 3) (u.1 0 1) (nI x)) (w + 4) (u.1 0 1) (nI y)) (w + 5) (u.1 0 1) (nI z)) w 5 (nI (u.2.2.2.1 ||| 2 ^ u.1 0 1))) w 2 (nI (u.1 0 1 + 1))).1 w 5 = nI (u.2.2.2.1 ||| 2 ^ u.1 0 1) := by rw [pz_Ik (by decide), pz_Ie rfl rfl]
  have r0 : ∀ k, k ≠ 2 → k ≠ 5 → (sw_uI (sw_uI (sw_uI (sw_uI (sw_uI σ (w + 3) (u.1 0 1) (nI x)) (w + 4) (u.1 0 1) (nI y)) (w + 5) (u.1 0 1) (nI z)) w 5 (nI (u.2.2.2.1 ||| 2 ^ u.1 0 1))) w 2 (nI (u.1 0 1 + 1))).1 w k = σ.1 w k := fun k hk hk2 => by rw [pz_Ik hk, pz_Ik hk2, pz_Io (by omega), pz_Io (by omega), pz_Io (by omega)]
  have r3 : ∀ f, (sw_uI (sw_uI (sw_uI (sw_uI (sw_uI σ (w + 3) (u.1 0 1) (nI x)) (w + 4) (u.1 0 1) (nI y)) (w + 5) (u.1 0 1) (nI z)) w 5 (nI (u.2.2.2.1 ||| 2 ^ u.1 0 1))) w 2 (nI (u.1 0 1 + 1))).1 (w + 3) f = if f = u.1 0 1 then nI x else σ.1 (w + 3) f := fun f => by
    rw [pz_Io (by omega), pz_Io (by omega), pz_Io (by omega), pz_Io (by omega)]
    by_cases c : f = u.1 0 1
    · rw [if_pos c, pz_Ie rfl c]
    · rw [if_neg c, pz_Ik c]
  have r4 : ∀ f, (sw_uI (sw_uI (sw_uI (sw_uI (sw_uI σ (w + 3) (u.1 0 1) (nI x)) (w + 4) (u.1 0 1) (nI y)) (w + 5) (u.1 0 1) (nI z)) w 5 (nI (u.2.2.2.1 ||| 2 ^ u.1 0 1))) w 2 (nI (u.1 0 1 + 1))).1 (w + 4) f = if f = u.1 0 1 then nI y else σ.1 (w + 4) f := fun f => by
    rw [pz_Io (by omega), pz_Io (by omega), pz_Io (by omega)]
    by_cases c : f = u.1 0 1
    · rw [if_pos c, pz_Ie rfl c]
    · rw [if_neg c, pz_Ik c, pz_Io (by omega)]
  have r5 : ∀ f, (sw_uI (sw_uI (sw_uI (sw_uI (sw_uI σ (w + 3) (u.1 0 1) (nI x)) (w + 4) (u.1 0 1) (nI y)) (w + 5) (u.1 0 1) (nI z)) w 5 (nI (u.2.2.2.1 ||| 2 ^ u.1 0 1))) w 2 (nI (u.1 0 1 + 1))).1 (w + 5) f = if f = u.1 0 1 then nI z else σ.1 (w + 5) f := fun f => by
    rw [pz_Io (by omega), pz_Io (by omega)]
    by_cases c : f = u.1 0 1
    · rw [if_pos c, pz_Ie rfl c]
    · rw [if_neg c, pz_Ik c, pz_Io (by omega), pz_Io (by omega)]
  generalize hg2 : sw_uI (sw_uI (sw_uI (sw_uI (sw_uI σ (w + 3) (u.1 0 1) (nI x)) (w + 4) (u.1 0 1) (nI y)) (w + 5) (u.1 0 1) (nI z)) w 5 (nI (u.2.2.2.1 ||| 2 ^ u.1 0 1))) w 2 (nI (u.1 0 1 + 1)) = σ2 at m q0 q5 r0 r3 r4 r5
  have r : ∀ j k, 6 ≤ j ∨ j = 1 ∨ j = 2 → σ2.1 (w + j) k = σ.1 (w + j) k := fun j k hj => m.r (by simp; omega) k
  refine ⟨⟨hw, by rw [m.rR (by simp; omega)]; exact a1, by rw [r0 _ (by decide) (by decide), e2 0 0 (by decide) (by decide)]; exact a2, by rw [e1]; exact q0, by rw [r0 _ (by decide) (by decide), e2 0 2 (by decide) (by decide)]; exact a4, by rw [r0 _ (by decide) (by decide), e2 0 3 (by decide) (by decide)]; exact a5, q5, by rw [r0 _ (by decide) (by decide)]; exact a7, fun f hf => ?_, fun k hk => ?_, fun s hs => ?_, ⟨fun f hf => ?_, fun s hs => ?_⟩, n0, by rw [r 9 _ (by decide)]; exact b1, by omega, fun j hj => ?_⟩, m⟩
  · rw [e2 0 0 (by decide) (by decide)] at hf
    rw [r 2 _ (by decide), e2 1 f (by decide) (by omega)]
    exact a8 f hf
  · rw [e1] at hk
    rw [r3, r4, r5]
    by_cases c : k = u.1 0 1
    · rw [if_pos c, if_pos c, if_pos c, c, e4, e5, e6]
      exact ⟨rfl, rfl, rfl⟩
    · rw [if_neg c, if_neg c, if_neg c, e3 _ (by omega), e3 _ (by omega), e3 _ (by omega)]
      exact a9 k (by omega)
  · rw [e2 0 2 (by decide) (by decide)] at hs
    rw [r 7 _ (by decide), r 8 _ (by decide), e2 3 _ (by decide) (Or.inl (by decide)), e2 3 _ (by decide) (Or.inl (by decide))]
    exact a10 s hs
  · rw [e2 0 0 (by decide) (by decide)] at hf
    rw [r 1 _ (by decide)]
    exact a11 f hf
  · rw [e2 0 2 (by decide) (by decide)] at hs
    rw [r 6 _ (by decide)]
    exact a12 s hs
  · obtain ⟨a, c1, c2, c3, c4⟩ := b3 j hj
    exact ⟨a, by rw [r 11 _ (by decide)]; exact c1, by rw [r 12 _ (by decide)]; exact c2, c3, fun i hi => by rw [r 10 _ (by decide)]; exact c4 i hi⟩
/-- known fields, by the row of steps -/
theorem px_uc.kn {t : Nat → Nat} {N w b : Nat} {u : g_U} {oth : Option Nat} {k : Nat × Nat → uR} {f : sw_St → Option (Int32 × sw_St)} {g : Nat → sw_St → Option (Int32 × sw_St)} (hu : pu_ok u) (ht : ∀ i, t i < 256) (hN : N ≤ 1600) (hb : b ≤ N) (ho : ∀ g, oth = some g → g < 8) (h0 : ∀ σ σ', F_X3_knownField σ (oI oth) = some (-1, σ') → f σ = some (0, σ')) (h1 : ∀ σ σ' v, v < 8 → F_X3_knownField σ (oI oth) = some (nI v, σ') → f σ = g v σ') (hg : ∀ r, pu_kn t N u oth b = .ok r → r.1 < u.1 0 0 → oth ≠ some r.1 → b < r.2 → r.2 ≤ N → px_uc t N w u (g r.1) r.2 (k r)) : px_uc t N w u f b (ub (pu_kn t N u oth b) k) := by
  have l8 := hu.1.1
  refine px_uc.sq (bh := fun r => r.2) (g := fun r => g r.1) (fun σ hs hX => ?_) (fun r1 hr1 => ?_)
  · obtain ⟨p1, p2⟩ := px_known (oth := oth) hu hs hX ht hN hb ho
    refine ⟨fun q hq => ?_, fun e he => ?_⟩
    · obtain ⟨σ', k1, k2, k3⟩ := p1 q hq
      have := pu_kn_ok ht hb hq
      exact ⟨σ', h1 σ σ' q.1 (by omega) k1, k2, k3⟩
    · obtain ⟨σ', k1, k2⟩ := p2 e he
      exact ⟨σ', h0 σ σ' k1, k2⟩
  · have f1 := pu_kn_ok ht hb hr1
    exact ⟨by omega, hg r1 hr1 f1.1 f1.2.1 f1.2.2.1 f1.2.2.2⟩
theorem px_uc.nu {t : Nat → Nat} {N w b lo lim : Nat} {x2 : Int32} {u : g_U} {k : Nat × Nat → uR} {f : sw_St → Option (Int32 × sw_St)} {g : Nat → sw_St → Option (Int32 × sw_St)} (ht : ∀ i, t i < 256) (hN : N ≤ 1600) (hb : b ≤ N) (hlo : lo < 2 ^ 31) (hlim : x2.toInt = (lim : Int) - 1) (h0 : ∀ σ σ', F_X6_takeNumber σ (nI lo) x2 = some (-1, σ') → f σ = some (0, σ')) (h1 : ∀ σ σ' v, v < 10000 → F_X6_takeNumber σ (nI lo) x2 = some (nI v, σ') → f σ = g v σ') (hg : ∀ r, tk_num t N lo lim b = .ok r → lo ≤ r.1 → r.1 < lim → b < r.2 → r.2 ≤ N → px_uc t N w u (g r.1) r.2 (k r)) : px_uc t N w u f b (ub (tk_num t N lo lim b) k) := by
  refine px_uc.sq (bh := fun r => r.2) (g := fun r => g r.1) (fun σ hs hX => ?_) (fun r1 hr1 => ?_)
  · obtain ⟨p1, p2⟩ := px_tnum2 (lo := lo) (lim := lim) (x2 := x2) hs ht hN hb hlo hlim
    refine ⟨fun q hq => ?_, fun e he => ?_⟩
    · obtain ⟨σ', k1, k2, k3, k4⟩ := p1 q hq
      exact ⟨σ', h1 σ σ' q.1 k4 k1, k2, k3⟩
    · obtain ⟨σ', k1, k2⟩ := p2 e he
      exact ⟨σ', h0 σ σ' k1, k2⟩
  · have f1 := tk_num_ok hb hr1
    exact ⟨by omega, hg r1 hr1 f1.1 f1.2.1 f1.2.2.1 f1.2.2.2⟩
theorem px_ug {t : Nat → Nat} {N w b : Nat} {u : g_U} (hu : pu_ok u) (ht : ∀ i, t i < 256) (hN : N ≤ 1600) (hb : b ≤ N) : px_uc t N w u (fun σ => F_X3_gapStatement σ) b (pu_gap t N u b) := by
  have l8 := hu.1.1
  have l10 := hu.1.2.1
  have hes := tk_e_sp t hb
  unfold pu_gap
  by_cases c : u.1 0 1 < 10
  · rw [if_pos c]
    refine px_uc.ad (g := fun σ => (F_X3_knownField σ (-1)).bind fun q4 => if q4.1 = (-1) then (S_X3_gapStatement_61 q4.2) else ((F_X6_expect q4.2 259).bind fun q5 => if q5.1 = 0 then (S_X3_gapStatement_61 q5.2) else ((F_X3_knownField q5.2 q4.1).bind fun q6 => if q6.1 = (-1) then (S_X3_gapStatement_87 q6.2) else ((F_X6_expect q6.2 260).bind fun q7 => if q7.1 = 0 then (S_X3_gapStatement_87 q7.2) else ((F_X6_takeNumber q7.2 1 9).bind fun q8 => if q8.1 = (-1) then (some (0, q8.2)) else px_wG (nI (u.1 0 1)) q4.1 q6.1 q8))))) ht hN hb (fun σ σ' hs hX e => ?_) ?_
    · unfold F_X3_gapStatement
      rw [hX.2.1]
      dsimp only [Option.bind_some]
      rw [if_pos (ld_O hX.1), hX.2.2.2.1, if_pos (show nI (u.1 0 1) < 10 from nI_lt (b := 10) c (by omega)), e]
      rfl
    · refine px_uc.kn (oth := none) (g := fun v σ => (F_X6_expect σ 259).bind fun q5 => if q5.1 = 0 then (S_X3_gapStatement_61 q5.2) else ((F_X3_knownField q5.2 (nI v)).bind fun q6 => if q6.1 = (-1) then (S_X3_gapStatement_87 q6.2) else ((F_X6_expect q6.2 260).bind fun q7 => if q7.1 = 0 then (S_X3_gapStatement_87 q7.2) else ((F_X6_takeNumber q7.2 1 9).bind fun q8 => if q8.1 = (-1) then (some (0, q8.2)) else px_wG (nI (u.1 0 1)) (nI v) q6.1 q8)))) hu ht hN hes.2.1 (fun g hg => (by cases hg)) (fun σ σ' e => ?_) (fun σ σ' v hv e => ?_) (fun r1 hr1 i1 i2 i3 i4 => ?_)
      · rw [show F_X3_knownField σ (-1) = _ from e]
        rfl
      · rw [show F_X3_knownField σ (-1) = _ from e]
        dsimp only [Option.bind_some]
        rw [if_neg (pz_nm1 (by omega))]
      · have hes1 := tk_e_sp t i4
        refine px_uc.ex (g := fun σ => (F_X3_knownField σ (nI r1.1)).bind fun q6 => if q6.1 = (-1) then (S_X3_gapStatement_87 q6.2) else ((F_X6_expect q6.2 260).bind fun q7 => if q7.1 = 0 then (S_X3_gapStatement_87 q7.2) else ((F_X6_takeNumber q7.2 1 9).bind fun q8 => if q8.1 = (-1) then (some (0, q8.2)) else px_wG (nI (u.1 0 1)) (nI r1.1) q6.1 q8))) ht hN i4 (by decide) (fun σ σ' e => ?_) (fun σ σ' e => ?_) ?_
        · rw [show F_X6_expect σ 259 = _ from e]
          rfl
        · rw [show F_X6_expect σ 259 = _ from e]
          dsimp only [Option.bind_some]
          rw [if_neg pz_10]
        · refine px_uc.kn (oth := some r1.1) (g := fun v σ => (F_X6_expect σ 260).bind fun q7 => if q7.1 = 0 then (S_X3_gapStatement_87 q7.2) else ((F_X6_takeNumber q7.2 1 9).bind fun q8 => if q8.1 = (-1) then (some (0, q8.2)) else px_wG (nI (u.1 0 1)) (nI r1.1) (nI v) q8)) hu ht hN hes1.2.1 (fun g hg => by rw [← Option.some.inj hg]; omega) (fun σ σ' e => ?_) (fun σ σ' v hv e => ?_) (fun r2 hr2 j1 j2 j3 j4 => ?_)
          · rw [show F_X3_knownField σ (nI r1.1) = _ from e]
            rfl
          · rw [show F_X3_knownField σ (nI r1.1) = _ from e]
            dsimp only [Option.bind_some]
            rw [if_neg (pz_nm1 (by omega))]
          · have hes2 := tk_e_sp t j4
            refine px_uc.ex (g := fun σ => (F_X6_takeNumber σ 1 9).bind fun q8 => if q8.1 = (-1) then (some (0, q8.2)) else px_wG (nI (u.1 0 1)) (nI r1.1) (nI r2.1) q8) ht hN j4 (by decide) (fun σ σ' e => ?_) (fun σ σ' e => ?_) ?_
            · rw [show F_X6_expect σ 260 = _ from e]
              rfl
            · rw [show F_X6_expect σ 260 = _ from e]
              dsimp only [Option.bind_some]
              rw [if_neg pz_10]
            · refine px_uc.nu (lo := 1) (lim := 10) (x2 := 9) (g := fun v σ => px_wG (nI (u.1 0 1)) (nI r1.1) (nI r2.1) (nI v, σ)) ht hN hes2.2.1 (by decide) (by decide) (fun σ σ' e => ?_) (fun σ σ' v hv e => ?_) (fun r3 hr3 k1 k2 k3 k4 => ?_)
              · rw [show F_X6_takeNumber σ 1 9 = _ from e]
                rfl
              · rw [show F_X6_takeNumber σ 1 9 = _ from e]
                dsimp only [Option.bind_some]
                rw [if_neg (pz_nm1 (by omega))]
              · refine fun σ hs hX => ⟨fun q hq => ?_, fun e he => (by cases he)⟩
                rw [← Except.ok.inj hq]
                obtain ⟨x1, x2⟩ := pu_X_g (x := r1.1) (y := r2.1) (z := r3.1) hX (Nat.le_refl r3.2)
                have hw := hX.1
                exact ⟨_, px_wG_ok hX.1 hX.2.1 hX.2.2.2.1 hX.2.2.2.2.2.2.1 c, hs.mvS x2 (by simp; omega) (by simp; omega), x1, x2.mono (by unfold pu_S; simp), by rw [x2.r (by simp; omega)], by rw [x2.r (by simp; omega)]⟩
  · rw [if_neg c]
    refine px_uc.er (fun σ hs hX => ?_)
    obtain ⟨σ', p1, p2⟩ := px_fl5 hs
    refine ⟨σ', ?_, p2⟩
    unfold F_X3_gapStatement
    rw [hX.2.1]
    dsimp only [Option.bind_some]
    rw [if_pos (ld_O hX.1), hX.2.2.2.1, if_neg (show ¬ nI (u.1 0 1) < 10 from nI_nlt (a := u.1 0 1) (b := 10) (by omega) (by omega))]
    exact p1
/-! a sheep -/
noncomputable def px_wS (k x4 x6 : Int32) (q8 : Int32 × sw_St) : Option (Int32 × sw_St) := ((q8.2.2.2 32 1).bind fun w9 => (if sw_isO sw_gX w9 9 = true then (if sw_isA sw_gX (w9 + 6) 0 = true then (if sw_inb k (sw_ln sw_gX (w9 + 6)) = true then ((q8.2.2.2 32 1).bind fun w13 => (if sw_isO sw_gX w13 9 = true then (if sw_isA sw_gX (w13 + 7) 0 = true then (if sw_inb k (sw_ln sw_gX (w13 + 7)) = true then ((q8.2.2.2 32 1).bind fun w17 => (if sw_isO sw_gX w17 9 = true then (if sw_isA sw_gX (w17 + 8) 0 = true then (if sw_inb k (sw_ln sw_gX (w17 + 8)) = true then ((q8.2.2.2 32 1).bind fun w21 => (if sw_isO sw_gX w21 9 = true then (if sw_isO sw_gX w21 9 = true then (some (1, (sw_uI (sw_uI (sw_uI (sw_uI q8.2 (w9 + 6) k.toNatClampNeg x4) (w13 + 7) k.toNatClampNeg x6) (w17 + 8) k.toNatClampNeg q8.1) w21 3 (((sw_uI (sw_uI (sw_uI q8.2 (w9 + 6) k.toNatClampNeg x4) (w13 + 7) k.toNatClampNeg x6) (w17 + 8) k.toNatClampNeg q8.1).1 w21 3) + 1)))) else none) else none)) else none) else none) else none)) else none) else none) else none)) else none) else none) else none))
theorem px_wS_ok {σ : sw_St} {w k : Nat} {x4 x6 x8 : Int32} (hw : w = 6 ∨ w = 19) (h32 : σ.2.2 32 1 = some w) (h3 : σ.1 w 3 = nI k) (hk : k < 6) : px_wS (nI k) x4 x6 (x8, σ) = some (1, sw_uI (sw_uI (sw_uI (sw_uI σ (w + 6) k x4) (w + 7) k x6) (w + 8) k x8) w 3 (nI (k + 1))) := by
  unfold px_wS
  simp only [h32, Option.bind_some, ld_O hw, ld_C hw, ld_A1 hw, ld_n1 hw, ld_A2 hw, ld_n2 hw, ld_A3 hw, ld_n3 hw, ld_A4 hw, ld_n4 hw, ld_A5 hw, ld_n5 hw, ld_A6 hw, ld_n6 hw, ld_A7 hw, ld_n7 hw, ld_A8 hw, ld_n8 hw, ld_A10 hw, ld_n10 hw, ld_A11 hw, ld_n11 hw, ld_A12 hw, ld_n12 hw, ld_A10' hw, ld_n10' hw, if_true, pz_inb hk (show 6 < 2 ^ 31 by omega), nI_clamp (show k < 2 ^ 31 by omega), pz_Io (show w ≠ w + 8 by omega), pz_Io (show w ≠ w + 7 by omega), pz_Io (show w ≠ w + 6 by omega), h3, nI_1]
theorem pu_X_s {σ : sw_St} {w b b' y z : Nat} {v : List Nat} {u : g_U} (hX : pu_X σ w u b) (hb : b ≤ b') : pu_X (sw_uI (sw_uI (sw_uI (sw_uI σ (w + 6) (u.1 0 2) (nI (g_nx v))) (w + 7) (u.1 0 2) (nI y)) (w + 8) (u.1 0 2) (nI z)) w 3 (nI (u.1 0 2 + 1))) w (u_s u v y z) b' ∧ pz_sm [w, w + 6, w + 7, w + 8] σ (sw_uI (sw_uI (sw_uI (sw_uI σ (w + 6) (u.1 0 2) (nI (g_nx v))) (w + 7) (u.1 0 2) (nI y)) (w + 8) (u.1 0 2) (nI z)) w 3 (nI (u.1 0 2 + 1))) := by
  obtain ⟨hw, a1, a2, a3, a4, a5, a6, a7, a8, a9, a10, ⟨a11, a12⟩, n0, b1, b2, b3⟩ := hX
  obtain ⟨e1, e2, e3, e4, e5, e6, e7⟩ := u_s_el (u := u) (v := v) (a := y) (c := z)
  have m : pz_sm [w, w + 6, w + 7, w + 8] σ (sw_uI (sw_uI (sw_uI (sw_uI σ (w + 6) (u.1 0 2) (nI (g_nx v))) (w + 7) (u.1 0 2) (nI y)) (w + 8) (u.1 0 2) (nI z)) w 3 (nI (u.1 0 2 + 1))) := ((((pz_sm.refl _ σ).I (by simp) _ _).I (by simp) _ _).I (by simp) _ _).I (by simp) _ _
  have q0 : (sw_uI (sw_uI (sw_uI (sw_uI σ (w + 6) (u.1 0 2) (nI (g_nx v))) (w + 7) (u.1 0 2) (nI y)) (w + 8) (u.1 0 2) (nI z)) w 3 (nI (u.1 0 2 + 1))).1 w 3 = nI (u.1 0 2 + 1) := pz_Ie rfl rfl
  have r0 : ∀ k, k ≠ 3 → (sw_uI (sw_uI (sw_uI (sw_uI σ (w + 6) (u.1 0 2) (nI (g_nx v))) (w + 7) (u.1 0 2) (nI y)) (w + 8) (u.1 0 2) (nI z)) w 3 (nI (u.1 0 2 + 1))).1 w k = σ.1 w k := fun k hk => by rw [pz_Ik hk, pz_Io (by omega), pz_Io (by omega), pz_Io (by omega)]
  have r6 : ∀ f, (sw_uI (sw_uI (sw_uI (sw_uI σ (w + 6) (u.1 0 2) (nI (g_nx v))) (w + 7) (u.1 0 2) (nI y)) (w + 8) (u.1 0 2) (nI z)) w 3 (nI (u.1 0 2 + 1))).1 (w + 6) f = if f = u.1 0 2 then nI (g_nx v) else σ.1 (w + 6) f := fun f => by
    rw [pz_Io (by omega), pz_Io (by omega), pz_Io (by omega)]
    by_cases c : f = u.1 0 2
    · rw [if_pos c, pz_Ie rfl c]
    · rw [if_neg c, pz_Ik c]
  have r7 : ∀ f, (sw_uI (sw_uI (sw_uI (sw_uI σ (w + 6) (u.1 0 2) (nI (g_nx v))) (w + 7) (u.1 0 2) (nI y)) (w + 8) (u.1 0 2) (nI z)) w 3 (nI (u.1 0 2 + 1))).1 (w + 7) f = if f = u.1 0 2 then nI y else σ.1 (w + 7) f := fun f => by
    rw [pz_Io (by omega), pz_Io (by omega)]
    by_cases c : f = u.1 0 2
    · rw [if_pos c, pz_Ie rfl c]
    · rw [if_neg c, pz_Ik c, pz_Io (by omega)]
  have r8 : ∀ f, (sw_uI (sw_uI (sw_uI (sw_uI σ (w + 6) (u.1 0 2) (nI (g_nx v))) (w + 7) (u.1 0 2) (nI y)) (w + 8) (u.1 0 2) (nI z)) w 3 (nI (u.1 0 2 + 1))).1 (w + 8) f = if f = u.1 0 2 then nI z else σ.1 (w + 8) f := fun f => by
    rw [pz_Io (by omega)]
    by_cases c : f = u.1 0 2
    · rw [if_pos c, pz_Ie rfl c]
    · rw [if_neg c, pz_Ik c, pz_Io (by omega), pz_Io (by omega)]
  generalize hg2 : sw_uI (sw_uI (sw_uI (sw_uI σ (w + 6) (u.1 0 2) (nI (g_nx v))) (w + 7) (u.1 0 2) (nI y)) (w + 8) (u.1 0 2) (nI z)) w 3 (nI (u.1 0 2 + 1)) = σ2 at m q0 r0 r6 r7 r8
  have r : ∀ j k, 9 ≤ j ∨ (1 ≤ j ∧ j ≤ 5) → σ2.1 (w + j) k = σ.1 (w + j) k := fun j k hj => m.r (by simp; omega) k
  refine ⟨⟨hw, by rw [m.rR (by simp; omega)]; exact a1, by rw [r0 _ (by decide), e2 0 0 (by decide) (by decide)]; exact a2, by rw [r0 _ (by decide), e2 0 1 (by decide) (by decide)]; exact a3, by rw [e1]; exact q0, by rw [r0 _ (by decide), e2 0 3 (by decide) (by decide)]; exact a5, by rw [r0 _ (by decide)]; exact a6, by rw [r0 _ (by decide)]; exact a7, fun f hf => ?_, fun k hk => ?_, fun s hs => ?_, ⟨fun f hf => ?_, fun s hs => ?_⟩, n0, by rw [r 9 _ (by decide)]; exact b1, by omega, fun j hj => ?_⟩, m⟩
  · rw [e2 0 0 (by decide) (by decide)] at hf
    rw [r 2 _ (by decide), e2 1 f (by decide) (by omega)]
    exact a8 f hf
  · rw [e2 0 1 (by decide) (by decide)] at hk
    rw [r 3 _ (by decide), r 4 _ (by decide), r 5 _ (by decide), e2 2 _ (by decide) (Or.inl (by decide)), e2 2 _ (by decide) (Or.inl (by decide)), e2 2 _ (by decide) (Or.inl (by decide))]
    exact a9 k hk
  · rw [e1] at hs
    rw [r7, r8]
    by_cases c : s = u.1 0 2
    · rw [if_pos c, if_pos c, c, e4, e5]
      exact ⟨rfl, rfl⟩
    · rw [if_neg c, if_neg c, e3 _ (by omega), e3 _ (by omega)]
      exact a10 s (by omega)
  · rw [e2 0 0 (by decide) (by decide)] at hf
    rw [r 1 _ (by decide), e6]
    exact a11 f hf
  · rw [e1] at hs
    rw [r6, e7]
    by_cases c : s = u.1 0 2
    · rw [if_pos c, if_pos c]
    · rw [if_neg c, if_neg c]
      exact a12 s (by omega)
  · obtain ⟨a, c1, c2, c3, c4⟩ := b3 j hj
    exact ⟨a, by rw [r 11 _ (by decide)]; exact c1, by rw [r 12 _ (by decide)]; exact c2, c3, fun i hi => by rw [r 10 _ (by decide)]; exact c4 i hi⟩
theorem px_us {t : Nat → Nat} {N w b : Nat} {u : g_U} (hu : pu_ok u) (ht : ∀ i, t i < 256) (hN : N ≤ 1600) (hb : b ≤ N) : px_uc t N w u (fun σ => F_X3_sheepStatement σ) b (pu_sheep t N u b) := by
  have l8 := hu.1.1
  have l6 := hu.1.2.2.1
  have hes := tk_e_sp t hb
  unfold pu_sheep
  by_cases c : u.1 0 2 < 6
  · rw [if_pos c]
    refine px_uc.ad (g := fun σ => (F_X3_newName σ).bind fun q4 => if q4.1 = (-1) then (S_X3_sheepStatement_60 q4.2) else ((F_X6_expect q4.2 263).bind fun q5 => if q5.1 = 0 then (S_X3_sheepStatement_60 q5.2) else ((F_X3_knownField q5.2 (-1)).bind fun q6 => if q6.1 = (-1) then (S_X3_sheepStatement_86 q6.2) else ((F_X6_expect q6.2 264).bind fun q7 => if q7.1 = 0 then (S_X3_sheepStatement_86 q7.2) else ((F_X6_takeNumber q7.2 0 9).bind fun q8 => if q8.1 = (-1) then (some (0, q8.2)) else px_wS (nI (u.1 0 2)) q4.1 q6.1 q8))))) ht hN hb (fun σ σ' hs hX e => ?_) ?_
    · unfold F_X3_sheepStatement
      rw [hX.2.1]
      dsimp only [Option.bind_some]
      rw [if_pos (ld_O hX.1), hX.2.2.2.2.1, if_pos (show nI (u.1 0 2) < 6 from nI_lt (b := 6) c (by omega)), e]
      rfl
    · refine px_uc.sq (bh := fun r => r.2) (g := fun r σ => (F_X6_expect σ 263).bind fun q5 => if q5.1 = 0 then (S_X3_sheepStatement_60 q5.2) else ((F_X3_knownField q5.2 (-1)).bind fun q6 => if q6.1 = (-1) then (S_X3_sheepStatement_86 q6.2) else ((F_X6_expect q6.2 264).bind fun q7 => if q7.1 = 0 then (S_X3_sheepStatement_86 q7.2) else ((F_X6_takeNumber q7.2 0 9).bind fun q8 => if q8.1 = (-1) then (some (0, q8.2)) else px_wS (nI (u.1 0 2)) (nI (g_nx r.1)) q6.1 q8)))) (fun σ hs hX => ?_) (fun r1 hr1 => ?_)
      · obtain ⟨p1, p2⟩ := px_newName hu hs hX ht hN hes.2.1
        refine ⟨fun q hq => ?_, fun e he => ?_⟩
        · obtain ⟨σ', k1, k2, k3⟩ := p1 q hq
          have nb := g_nx_lt (pu_new_ok ht hes.2.1 hq).1
          refine ⟨σ', ?_, k2, k3⟩
          rw [k1]
          dsimp only [Option.bind_some]
          rw [if_neg (pz_nm1 (by omega))]
        · obtain ⟨σ', k1, k2⟩ := p2 e he
          refine ⟨σ', ?_, k2⟩
          rw [k1]
          dsimp only [Option.bind_some]
          rw [if_pos rfl]
          rfl
      · have f1 := pu_new_ok ht hes.2.1 hr1
        have i4 := f1.2.2.1
        have hes1 := tk_e_sp t i4
        refine ⟨by omega, ?_⟩
        refine px_uc.ex (g := fun σ => (F_X3_knownField σ (-1)).bind fun q6 => if q6.1 = (-1) then (S_X3_sheepStatement_86 q6.2) else ((F_X6_expect q6.2 264).bind fun q7 => if q7.1 = 0 then (S_X3_sheepStatement_86 q7.2) else ((F_X6_takeNumber q7.2 0 9).bind fun q8 => if q8.1 = (-1) then (some (0, q8.2)) else px_wS (nI (u.1 0 2)) (nI (g_nx r1.1)) q6.1 q8))) ht hN i4 (by decide) (fun σ σ' e => ?_) (fun σ σ' e => ?_) ?_
        · rw [show F_X6_expect σ 263 = _ from e]
          rfl
        · rw [show F_X6_expect σ 263 = _ from e]
          dsimp only [Option.bind_some]
          rw [if_neg pz_10]
        · refine px_uc.kn (oth := none) (g := fun v σ => (F_X6_expect σ 264).bind fun q7 => if q7.1 = 0 then (S_X3_sheepStatement_86 q7.2) else ((F_X6_takeNumber q7.2 0 9).bind fun q8 => if q8.1 = (-1) then (some (0, q8.2)) else px_wS (nI (u.1 0 2)) (nI (g_nx r1.1)) (nI v) q8)) hu ht hN hes1.2.1 (fun g hg => (by cases hg)) (fun σ σ' e => ?_) (fun σ σ' v hv e => ?_) (fun r2 hr2 j1 j2 j3 j4 => ?_)
          · rw [show F_X3_knownField σ (-1) = _ from e]
            rfl
          · rw [show F_X3_knownField σ (-1) = _ from e]
            dsimp only [Option.bind_some]
            rw [if_neg (pz_nm1 (by omega))]
          · have hes2 := tk_e_sp t j4
            refine px_uc.ex (g := fun σ => (F_X6_takeNumber σ 0 9).bind fun q8 => if q8.1 = (-1) then (some (0, q8.2)) else px_wS (nI (u.1 0 2)) (nI (g_nx r1.1)) (nI r2.1) q8) ht hN j4 (by decide) (fun σ σ' e => ?_) (fun σ σ' e => ?_) ?_
            · rw [show F_X6_expect σ 264 = _ from e]
              rfl
            · rw [show F_X6_expect σ 264 = _ from e]
              dsimp only [Option.bind_some]
              rw [if_neg pz_10]
            · refine px_uc.nu (lo := 0) (lim := 10) (x2 := 9) (g := fun v σ => px_wS (nI (u.1 0 2)) (nI (g_nx r1.1)) (nI r2.1) (nI v, σ)) ht hN hes2.2.1 (by decide) (by decide) (fun σ σ' e => ?_) (fun σ σ' v hv e => ?_) (fun r3 hr3 k1 k2 k3 k4 => ?_)
              · rw [show F_X6_takeNumber σ 0 9 = _ from e]
                rfl
              · rw [show F_X6_takeNumber σ 0 9 = _ from e]
                dsimp only [Option.bind_some]
                rw [if_neg (pz_nm1 (by omega))]
              · refine fun σ hs hX => ⟨fun q hq => ?_, fun e he => (by cases he)⟩
                rw [← Except.ok.inj hq]
                obtain ⟨x1, x2⟩ := pu_X_s (v := r1.1) (y := r2.1) (z := r3.1) hX (Nat.le_refl r3.2)
                have hw := hX.1
                exact ⟨_, px_wS_ok hX.1 hX.2.1 hX.2.2.2.2.1 c, hs.mvS x2 (by simp; omega) (by simp; omega), x1, x2.mono (by unfold pu_S; simp), by rw [x2.r (by simp; omega)], by rw [x2.r (by simp; omega)]⟩
  · rw [if_neg c]
    refine px_uc.er (fun σ hs hX => ?_)
    obtain ⟨σ', p1, p2⟩ := px_fl5 hs
    refine ⟨σ', ?_, p2⟩
    unfold F_X3_sheepStatement
    rw [hX.2.1]
    dsimp only [Option.bind_some]
    rw [if_pos (ld_O hX.1), hX.2.2.2.2.1, if_neg (show ¬ nI (u.1 0 2) < 6 from nI_nlt (a := u.1 0 2) (b := 6) (by omega) (by omega))]
    exact p1

/-! Statements of an upland: the reference. -/
def pm_kp (o k : Nat) : Prop := o ≠ 0 ∧ o ≠ 32 ∧ o ≠ 71 ∧ o ≠ 72 ∧ o ≠ 73 ∧ (o = 28 → 4 ≤ k) ∧ (o = 29 → 16 ≤ k) ∧ (o = 30 → 8 ≤ k) ∧ (o = 31 → 30 ≤ k) ∧ (o = 33 → 12 ≤ k) ∧ (o = 34 → 3 ≤ k) ∧ (o = 35 → 3 ≤ k) ∧ (o = 36 → 1600 ≤ k)
/-- all but the first halves stays -/
def pm_uf (K : List Nat) (τ τ' : sw_St) : Prop := (∀ o k, pm_kp o k → τ'.1 o k = τ.1 o k ∧ τ'.2.1 o k = τ.2.1 o k) ∧ (∀ k, k ∉ K → τ'.1 0 k = τ.1 0 k) ∧ τ'.2.1 0 = τ.2.1 0
def pm_UK : List Nat := [2, 4, 5, 6, 10, 36, 46, 48, 95, 97, 98, 99]
theorem pm_uf.refl (K : List Nat) (τ : sw_St) : pm_uf K τ τ := ⟨fun _ _ _ => ⟨rfl, rfl⟩, fun _ _ => rfl, rfl⟩
theorem pm_uf.trans {K : List Nat} {τ τ1 τ2 : sw_St} (h : pm_uf K τ τ1) (g : pm_uf K τ1 τ2) : pm_uf K τ τ2 :=
  ⟨fun o k ho => ⟨(g.1 o k ho).1.trans (h.1 o k ho).1, (g.1 o k ho).2.trans (h.1 o k ho).2⟩, fun k hk => (g.2.1 k hk).trans (h.2.1 k hk), g.2.2.trans h.2.2⟩
theorem pm_uf.mono {K K' : List Nat} {τ τ' : sw_St} (h : pm_uf K τ τ') (hk : ∀ x ∈ K, x ∈ K') : pm_uf K' τ τ' := ⟨h.1, fun k h2 => h.2.1 k (fun z => h2 (hk k z)), h.2.2⟩
theorem pm_uf.I {K : List Nat} {τ τ' : sw_St} (h : pm_uf K τ τ') {o k : Nat} (h0 : o ≠ 0) (ho : ¬ pm_kp o k) (v : Int32) : pm_uf K τ (sw_uI τ' o k v) := by
  refine ⟨fun o' k' hk => ⟨?_, (h.1 o' k' hk).2⟩, fun k' hk => by rw [pz_Io (Ne.symm h0)]; exact h.2.1 k' hk, h.2.2⟩
  rw [pz_I, if_neg (fun z => ho (by rw [← z.1, ← z.2]; exact hk))]
  exact (h.1 o' k' hk).1
theorem pm_uf.L {K : List Nat} {τ τ' : sw_St} (h : pm_uf K τ τ') {o k : Nat} (h0 : o ≠ 0) (ho : ¬ pm_kp o k) (v : Int64) : pm_uf K τ (sw_uL τ' o k v) := by
  refine ⟨fun o' k' hk => ⟨(h.1 o' k' hk).1, ?_⟩, h.2.1, ?_⟩
  · rw [pz_L, if_neg (fun z => ho (by rw [← z.1, ← z.2]; exact hk))]
    exact (h.1 o' k' hk).2
  · funext k'
    rw [pz_Lo (Ne.symm h0), h.2.2]
theorem pm_uf.K {K : List Nat} {τ τ' : sw_St} (h : pm_uf K τ τ') {k : Nat} (hk : k ∈ K) (v : Int32) : pm_uf K τ (sw_uI τ' 0 k v) :=
  ⟨fun o' k' h2 => ⟨by rw [pz_Io h2.1]; exact (h.1 o' k' h2).1, (h.1 o' k' h2).2⟩, fun k' h2 => by rw [pz_Ik (fun z => h2 (by rw [z]; exact hk))]; exact h.2.1 k' h2, h.2.2⟩
theorem pm_sm.uf {S K K' : List Nat} {τ τ' : sw_St} (h : pm_sm S K τ τ') (hS : ∀ o ∈ S, o = 32 ∨ o = 71 ∨ o = 72 ∨ o = 73) (hK : ∀ x ∈ K, x ∈ K') : pm_uf K' τ τ' := by
  refine ⟨fun o k ho => ?_, fun k hk => h.2.1 k (fun z => hk (hK k z)), h.2.2⟩
  have n : o ∉ S := fun z => by
    have := hS o z
    unfold pm_kp at ho
    omega
  have := h.1 o ho.1 n
  exact ⟨by rw [this.1], by rw [this.2]⟩
/-- the unfinished upland in the reference's hands -/
def pu_M (τ : sw_St) (u : g_U) (b : Nat) : Prop := pu_N τ u ∧ τ.1 28 2 = nI (u.1 0 1) ∧ τ.1 28 3 = nI (u.1 0 3) ∧ (∀ f, f < u.1 0 0 → τ.1 30 f = nI (u.1 1 f)) ∧ (∀ j, j < 3 * u.1 0 1 → τ.1 31 j = nI (u.1 2 j)) ∧ (∀ j, j < 2 * u.1 0 2 → τ.1 33 j = nI (u.1 3 j)) ∧ (∀ k, k < u.1 0 1 → τ.1 32 k = nI (if u.2.2.2.1.testBit k = true then 1 else 0)) ∧
  ∃ n, τ.1 0 46 = nI n ∧ n ≤ b ∧ ∀ i, i < 3 → (τ.1 34 i = -1 ∧ u.2.1 i = g_def i ∧ u.2.2.2.2.testBit i = false) ∨ (u.2.2.2.2.testBit i = true ∧ ∃ a, a + (u.2.1 i).length ≤ n ∧ τ.1 34 i = nI a ∧ τ.1 35 i = nI (a + (u.2.1 i).length) ∧ pm_cd τ 36 a (u.2.1 i))
theorem pu_M.mv {τ τ' : sw_St} {u : g_U} {b b' : Nat} {S K : List Nat} (h : pu_M τ u b) (m : pm_sm S K τ τ') (hS : ∀ o ∈ S, o = 71 ∨ o = 72 ∨ o = 73) (hK : 46 ∉ K) (hb : b ≤ b') : pu_M τ' u b' := by
  have n : ∀ o, 28 ≤ o → o ≤ 36 → o ∉ S := fun o h1 h2 z => by have := hS o z; omega
  have r : ∀ o, 28 ≤ o → o ≤ 36 → τ'.1 o = τ.1 o := fun o h1 h2 => (m.1 o (by omega) (n o h1 h2)).1
  have r29 : τ'.2.1 29 = τ.2.1 29 := (m.1 29 (by decide) (n 29 (by omega) (by omega))).2
  obtain ⟨a1, a2, a3, a4, a5, a6, a7, c, b1, b2, b3⟩ := h
  refine ⟨?_, by rw [r 28 (by omega) (by omega)]; exact a2, by rw [r 28 (by omega) (by omega)]; exact a3, by rw [r 30 (by omega) (by omega)]; exact a4, by rw [r 31 (by omega) (by omega)]; exact a5, by rw [r 33 (by omega) (by omega)]; exact a6, by rw [r 32 (by omega) (by omega)]; exact a7, c, by rw [m.2.1 46 hK]; exact b1, by omega, fun i hi => ?_⟩
  · unfold pu_N
    rw [r 28 (by omega) (by omega), r29]
    exact a1
  · unfold pm_cd
    rw [r 34 (by omega) (by omega), r 35 (by omega) (by omega), r 36 (by omega) (by omega)]
    exact b3 i hi
/-- dead: a fault is told -/
def pm_de (u : g_U) (τ : sw_St) : Prop := ¬ τ.1 0 5 = 0 ∧ τ.1 28 0 = nI (u.1 0 0) ∧ τ.1 28 1 = nI (u.1 0 2)
def pm_dd (u : g_U) (f : sw_St → Option (Unit × sw_St)) : Prop := ∀ τ, pm_de u τ → f τ = some ((), τ)
def pm_uc (t : Nat → Nat) (N : Nat) (u : g_U) (f : sw_St → Option (Unit × sw_St)) (b : Nat) (r : uR) : Prop := ∀ τ, pm_ps τ t N b → pu_M τ u b → (∀ q, r = .ok q → ∃ τ', f τ = some ((), τ') ∧ pm_ps τ' t N q.2 ∧ pu_M τ' q.1 q.2 ∧ pm_uf pm_UK τ τ') ∧ (∀ e, r = .error e → ∃ τ', f τ = some ((), τ') ∧ pm_bad τ' e.1 e.2 ∧ pm_uf pm_UK τ τ' ∧ 0 < e.1 ∧ e.1 < 100)
theorem pm_lx.uf {τ τ' : sw_St} (h : pm_lx τ τ') : pm_uf pm_UK τ τ' := pm_sm.uf h (by simp) (by decide)
theorem pm_lx.M {τ τ' : sw_St} {u : g_U} {b b' : Nat} (h : pm_lx τ τ') (hM : pu_M τ u b) (hb : b ≤ b') : pu_M τ' u b' := hM.mv h (by simp) (by decide) hb
theorem pm_uc.sq {α β : Type} {t : Nat → Nat} {N b : Nat} {u : g_U} {r1 : Except (Nat × Nat) α} {k : α → uR} {bh : α → Nat} {val : α → β} {F1 : sw_St → Option (β × sw_St)} {g : β → sw_St → Option (Unit × sw_St)} (hL : ∀ τ, pm_ps τ t N b → pu_M τ u b → (∀ q, r1 = .ok q → ∃ τ', F1 τ = some (val q, τ') ∧ pm_ps τ' t N (bh q) ∧ pm_lx τ τ') ∧ (∀ e, r1 = .error e → ∃ τ' y, F1 τ = some (y, τ') ∧ pm_bad τ' e.1 e.2 ∧ pm_lx τ τ' ∧ 0 < e.1 ∧ e.1 < 100)) (hD : ∀ y, pm_dd u (g y)) (hg : ∀ q, r1 = .ok q → b ≤ bh q ∧ pm_uc t N u (g (val q)) (bh q) (k q)) : pm_uc t N u (fun τ => (F1 τ).bind fun q => g q.1 q.2) b (ub r1 k) := by
  intro τ hs hM
  obtain ⟨a1, a2⟩ := hL τ hs hM
  (try dsimp only)
  cases hr : r1 with
  | error e0 =>
    refine ⟨fun q hq => (by cases hq), fun e he => ?_⟩
    have he : (Except.error e0 : uR) = .error e := he
    rw [← Except.error.inj he]
    obtain ⟨τ', y, p1, p2, p3, p4, p5⟩ := a2 e0 hr
    have hM1 := p3.M hM (Nat.le_refl b)
    refine ⟨τ', ?_, p2, p3.uf, p4, p5⟩
    rw [p1]
    dsimp only [Option.bind_some]
    exact hD y τ' ⟨pm_eq0 p2.1 p4 p5, hM1.1.1, hM1.1.2.1⟩
  | ok q1 =>
    obtain ⟨τ1, p1, p2, p3⟩ := a1 q1 hr
    obtain ⟨hb, hg⟩ := hg q1 hr
    obtain ⟨c1, c2⟩ := hg τ1 p2 (p3.M hM hb)
    rw [p1]
    dsimp only [Option.bind_some]
    refine ⟨fun q hq => ?_, fun e he => ?_⟩
    · have hq : k q1 = .ok q := hq
      obtain ⟨τ', d1, d2, d3, d4⟩ := c1 q hq
      exact ⟨τ', d1, d2, d3, p3.uf.trans d4⟩
    · have he : k q1 = .error e := he
      obtain ⟨τ', d1, d2, d3, d4⟩ := c2 e he
      exact ⟨τ', d1, d2, p3.uf.trans d3, d4⟩
theorem pm_uc.cg {t : Nat → Nat} {N b : Nat} {u : g_U} {r : uR} {f g : sw_St → Option (Unit × sw_St)} (h : ∀ τ, pm_ps τ t N b → pu_M τ u b → f τ = g τ) (hg : pm_uc t N u g b r) : pm_uc t N u f b r := fun τ hs hM => by
  rw [h τ hs hM]
  exact hg τ hs hM
/-- asks for a word -/
theorem pm_uc.ex {t : Nat → Nat} {N b : Nat} {u : g_U} {k : Nat → uR} {x : Nat × Nat} {g : sw_St → Option (Unit × sw_St)} (ht : ∀ i, t i < 256) (hN : N ≤ 1600) (hb : b ≤ N) (hx : x ∈ pm_ck) (hD : pm_dd u g) (hg : pm_uc t N u g (tk_e t N b) (k (tk_e t N b))) : pm_uc t N u (fun τ => (F_X11_asks τ x.1).bind fun q => g q.2) b (pu_exp t N x.2 b k) := by
  have hes := tk_e_sp t hb
  have hss := tk_s_sp t hb
  have e : pm_uc t N u (fun τ => (F_X11_asks τ x.1).bind fun q => g q.2) b (ub (if tk_k t N b = x.2 then Except.ok () else Except.error (1, tk_s t N b)) (fun _ => k (tk_e t N b))) := pm_uc.sq (val := fun _ => ()) (bh := fun _ => tk_e t N b) (g := fun _ => g) (F1 := fun τ => F_X11_asks τ x.1) (fun τ hs hM => by
    obtain ⟨a1, a2⟩ := pm_asks hs ht hN hb hx
    by_cases c : tk_k t N b = x.2
    · obtain ⟨τ', p1, p2, p3⟩ := a1 c
      rw [if_pos c]
      exact ⟨fun q _ => ⟨τ', p1, p2, pm_sm.mono p3 (by decide) (by decide)⟩, fun e he => (by cases he)⟩
    · obtain ⟨τ', p1, p2, p3⟩ := a2 c
      rw [if_neg c]
      refine ⟨fun q hq => (by cases hq), fun e he => ?_⟩
      rw [← Except.error.inj he]
      exact ⟨τ', (), p1, p2, pm_sm.mono p3 (by decide) (by decide), Nat.one_pos, (by omega : 1 < 100)⟩) (fun _ => hD) (fun q _ => ⟨by omega, hg⟩)
  unfold pu_exp
  by_cases c : tk_k t N b = x.2
  · rw [if_pos c] at e ⊢
    exact e
  · rw [if_neg c] at e ⊢
    exact e
theorem tk_num_e2 {t : Nat → Nat} {N lo lim b : Nat} {e : Nat × Nat} (h : tk_num t N lo lim b = .error e) : 0 < e.1 ∧ e.1 < 100 := by
  unfold tk_num at h
  split at h
  · split at h
    · split at h
      · cases h
      · rw [← Except.error.inj h]
        exact ⟨(by omega : 0 < 2), (by omega : 2 < 100)⟩
    · rw [← Except.error.inj h]
      exact ⟨(by omega : 0 < 1), (by omega : 1 < 100)⟩
  · rw [← Except.error.inj h]
    exact ⟨(by omega : 0 < 1), (by omega : 1 < 100)⟩
theorem pm_num2 {τ : sw_St} {t : Nat → Nat} {N b lo lim : Nat} {x2 : Int32} (h : pm_ps τ t N b) (ht : ∀ i, t i < 256) (hN : N ≤ 1600) (hb : b ≤ N) (hlo : lo < 2 ^ 31) (hlim : x2.toInt = (lim : Int) - 1) :
    (∀ r, tk_num t N lo lim b = .ok r → ∃ τ', F_X11_number τ (nI lo) x2 = some (nI r.1, τ') ∧ pm_ps τ' t N r.2 ∧ pm_lx τ τ' ∧ τ'.1 0 10 = nI (tk_s t N b)) ∧ (∀ e, tk_num t N lo lim b = .error e → ∃ τ' v, v < 10000 ∧ F_X11_number τ (nI lo) x2 = some (nI v, τ') ∧ pm_bad τ' e.1 e.2 ∧ pm_lx τ τ' ∧ 0 < e.1 ∧ e.1 < 100) := by
  obtain ⟨τ', p⟩ := pm_number h ht hN hb hlo hlim
  cases hn : tk_num t N lo lim b with
  | error e0 =>
    rw [hn] at p
    (try dsimp only at p)
    refine ⟨fun r hr => (by cases hr), fun e he => ?_⟩
    rw [← Except.error.inj he]
    obtain ⟨⟨v, hv, q1⟩, q2, q3⟩ := p
    have q4 := tk_num_e2 hn
    exact ⟨τ', v, hv, q1, q2, q3, q4.1, q4.2⟩
  | ok r0 =>
    rw [hn] at p
    (try dsimp only at p)
    exact ⟨fun r hr => (by rw [← Except.ok.inj hr]; exact ⟨τ', p⟩), fun e he => (by cases he)⟩
theorem pm_uc.nu {t : Nat → Nat} {N b lo lim : Nat} {x2 : Int32} {u : g_U} {k : Nat × Nat → uR} {g : Int32 → sw_St → Option (Unit × sw_St)} (ht : ∀ i, t i < 256) (hN : N ≤ 1600) (hb : b ≤ N) (hlo : lo < 2 ^ 31) (hlim : x2.toInt = (lim : Int) - 1) (hD : ∀ y, pm_dd u (g y)) (hg : ∀ r, tk_num t N lo lim b = .ok r → lo ≤ r.1 → r.1 < lim → b < r.2 → r.2 ≤ N → pm_uc t N u (g (nI r.1)) r.2 (k r)) : pm_uc t N u (fun τ => (F_X11_number τ (nI lo) x2).bind fun q => g q.1 q.2) b (ub (tk_num t N lo lim b) k) := by
  refine pm_uc.sq (val := fun r => nI r.1) (bh := fun r => r.2) (F1 := fun τ => F_X11_number τ (nI lo) x2) (fun τ hs hM => ?_) hD (fun r1 hr1 => ?_)
  · obtain ⟨p1, p2⟩ := pm_num2 (lo := lo) (lim := lim) (x2 := x2) hs ht hN hb hlo hlim
    refine ⟨fun q hq => ?_, fun e he => ?_⟩
    · obtain ⟨τ', k1, k2, k3, k4⟩ := p1 q hq
      exact ⟨τ', k1, k2, k3⟩
    · obtain ⟨τ', v, k0, k1, k2, k3, k4⟩ := p2 e he
      exact ⟨τ', _, k1, k2, k3, k4⟩
  · have f1 := tk_num_ok hb hr1
    exact ⟨by omega, hg r1 hr1 f1.1 f1.2.1 f1.2.2.1 f1.2.2.2⟩
theorem pm_uc.kn {t : Nat → Nat} {N b : Nat} {u : g_U} {oth : Option Nat} {k : Nat × Nat → uR} {g : Int32 → sw_St → Option (Unit × sw_St)} (hu : pu_ok u) (ht : ∀ i, t i < 256) (hN : N ≤ 1600) (hb : b ≤ N) (ho : ∀ g, oth = some g → g < 8) (hD : ∀ y, pm_dd u (g y)) (hg : ∀ r, pu_kn t N u oth b = .ok r → r.1 < u.1 0 0 → oth ≠ some r.1 → b < r.2 → r.2 ≤ N → pm_uc t N u (g (nI r.1)) r.2 (k r)) : pm_uc t N u (fun τ => (F_X11_fieldNamed τ (oI oth)).bind fun q => g q.1 q.2) b (ub (pu_kn t N u oth b) k) := by
  refine pm_uc.sq (val := fun r => nI r.1) (bh := fun r => r.2) (F1 := fun τ => F_X11_fieldNamed τ (oI oth)) (fun τ hs hM => pm_known hu hs hM.1 ht hN hb ho) hD (fun r1 hr1 => ?_)
  have f1 := pu_kn_ok ht hb hr1
  exact ⟨by omega, hg r1 hr1 f1.1 f1.2.1 f1.2.2.1 f1.2.2.2⟩
theorem pm_uc.nw {t : Nat → Nat} {N b : Nat} {u : g_U} {k : List Nat × Nat → uR} {g : Int64 → sw_St → Option (Unit × sw_St)} (hu : pu_ok u) (ht : ∀ i, t i < 256) (hN : N ≤ 1600) (hb : b ≤ N) (hD : ∀ y, pm_dd u (g y)) (hg : ∀ r, pu_new t N u b = .ok r → g_nk r.1 → b < r.2 → r.2 ≤ N → pm_uc t N u (g (lN (g_nr r.1))) r.2 (k r)) : pm_uc t N u (fun τ => (F_X11_newName τ).bind fun q => g q.1 q.2) b (ub (pu_new t N u b) k) := by
  refine pm_uc.sq (val := fun r => lN (g_nr r.1)) (bh := fun r => r.2) (F1 := fun τ => F_X11_newName τ) (fun τ hs hM => pm_newName hu hs hM.1 ht hN hb) hD (fun r1 hr1 => ?_)
  have f1 := pu_new_ok ht hb hr1
  exact ⟨by omega, hg r1 hr1 f1.1 f1.2.1 f1.2.2.1⟩
/-! dead steps -/
theorem pm_dd.ex {u : g_U} {o : Nat} {g : sw_St → Option (Unit × sw_St)} (h : pm_dd u g) : pm_dd u (fun τ => (F_X11_asks τ o).bind fun q => g q.2) := fun τ hd => by
  (try dsimp only)
  rw [pm_asksD hd.1]
  exact h τ hd
theorem pm_dd.nu {u : g_U} {x y : Int32} {g : Int32 → sw_St → Option (Unit × sw_St)} (h : ∀ y, pm_dd u (g y)) : pm_dd u (fun τ => (F_X11_number τ x y).bind fun q => g q.1 q.2) := fun τ hd => by
  (try dsimp only)
  rw [pm_numberD hd.1]
  exact h 0 τ hd
theorem pm_dd.kn {u : g_U} {x : Int32} {g : Int32 → sw_St → Option (Unit × sw_St)} (h8 : u.1 0 0 ≤ 8) (h : ∀ y, pm_dd u (g y)) : pm_dd u (fun τ => (F_X11_fieldNamed τ x).bind fun q => g q.1 q.2) := fun τ hd => by
  (try dsimp only)
  obtain ⟨v, hv⟩ := pm_knownD (x := x) h8 hd.1 hd.2.1
  rw [hv]
  exact h v τ hd
theorem pm_full {τ : sw_St} {r n lim pl : Nat} (h5 : τ.1 0 5 = 0) (hr : r < 8) (h : τ.1 28 r = nI n) (hn : n ≤ 10) (hl : lim ≤ 10) : (n ≠ lim → F_X11_isFull τ (nI r) (nI lim) (nI pl) = some (0, τ)) ∧ (n = lim → ∃ τ', F_X11_isFull τ (nI r) (nI lim) (nI pl) = some (1, τ') ∧ pm_bad τ' 5 pl ∧ pm_sm [] [5, 6] τ τ') := by
  unfold F_X11_isFull S_X11_isFull_23 S_X11_isFull_35
  rw [if_pos h5, if_pos (pz_inb hr (by omega)), nI_clamp (by omega), h]
  refine ⟨fun c => ?_, fun c => ?_⟩
  · rw [if_neg (fun y => c ((nI_eq (by omega) (by omega)).mp y)), if_pos h5, if_pos (Or.inl rfl)]
  · obtain ⟨τ2, q1, q2, q3⟩ := pm_failN (τ := τ) (kd := 5) (pl := pl) h5
    refine ⟨τ2, ?_, q2, q3⟩
    rw [if_pos (by rw [c]), show F_X11_fail τ 5 (nI pl) = _ from q1]
    dsimp only [Option.bind_some]
    rw [if_neg (pm_eq0 q2.1 (by omega) (by omega)), if_pos (Or.inr rfl)]
theorem pm_ps.mvW {τ τ' : sw_St} {t : Nat → Nat} {N b : Nat} (h : pm_ps τ t N b) (m : pm_uf pm_UK τ τ') (h2 : τ'.1 0 2 = τ.1 0 2) (h4 : τ'.1 0 4 = τ.1 0 4) (h5 : τ'.1 0 5 = τ.1 0 5) (h6 : τ'.1 0 6 = τ.1 0 6) : pm_ps τ' t N b := by
  have hw : ∀ x ∈ pm_wl, ∀ k, pm_kp x.1 k := by
    have : ∀ x ∈ pm_wl, x.1 ≠ 0 ∧ x.1 ≠ 32 ∧ x.1 ≠ 71 ∧ x.1 ≠ 72 ∧ x.1 ≠ 73 ∧ x.1 ≠ 28 ∧ x.1 ≠ 29 ∧ x.1 ≠ 30 ∧ x.1 ≠ 31 ∧ x.1 ≠ 33 ∧ x.1 ≠ 34 ∧ x.1 ≠ 35 ∧ x.1 ≠ 36 := by decide
    intro x hx k
    have := this x hx
    unfold pm_kp
    omega
  obtain ⟨⟨a1, a2, a3, a4⟩, ⟨a, b1, b2, b3⟩, c1, e, d1, d2⟩ := h
  refine ⟨⟨fun i hi => ?_, by rw [m.2.1 3 (by decide)]; exact a2, fun x hx i hi => ?_, by rw [h6]; exact a4⟩, ⟨a, b1, b2, by rw [h2]; exact b3⟩, by rw [h5]; exact c1, e, by rw [h4]; exact d1, d2⟩
  · rw [(m.1 1 i (by unfold pm_kp; omega)).1]
    exact a1 i hi
  · rw [(m.1 x.1 i (hw x hx i)).1]
    exact a3 x hx i hi

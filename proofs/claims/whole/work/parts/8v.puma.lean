/-! All statements of an upland: the reference. -/
theorem pm_u177 {t : Nat → Nat} {N c : Nat} {r : uR} {G : Option (Unit × sw_St)} {τ : sw_St} (ht : ∀ i, t i < 256) (hN : N ≤ 1600) (hc : c < 60) (h47 : τ.1 0 47 = nI c) (hL : (∀ q, r = .ok q → ∃ τ', G = S_X11_statementTold_177 τ' ∧ pm_ps τ' t N q.2 ∧ pu_M τ' q.1 q.2 ∧ pm_uf pm_UK τ τ') ∧ (∀ e, r = .error e → ∃ τ', G = S_X11_statementTold_177 τ' ∧ pm_bad τ' e.1 e.2 ∧ pm_uf pm_UK τ τ' ∧ 0 < e.1 ∧ e.1 < 100)) (hq : ∀ q, r = .ok q → q.2 ≤ N) :
    (∀ q, ub r (fun q => pu_exp t N 59 q.2 (fun b2 => .ok (q.1, b2))) = (.ok q : uR) → ∃ τ', G = some ((), τ') ∧ pm_ps τ' t N q.2 ∧ pu_M τ' q.1 q.2 ∧ pm_uf (47 :: pm_UK) τ τ' ∧ τ'.1 0 47 = nI (c + 1)) ∧ (∀ e, ub r (fun q => pu_exp t N 59 q.2 (fun b2 => .ok (q.1, b2))) = (.error e : uR) → ∃ τ', G = some ((), τ') ∧ pm_bad τ' e.1 e.2 ∧ pm_uf (47 :: pm_UK) τ τ' ∧ 0 < e.1 ∧ e.1 < 100) := by
  have hsg : tk_sgn 59 := by unfold tk_sgn; omega
  cases hr : r with
  | error e0 =>
    refine ⟨fun q hq => (by cases hq), fun e he => ?_⟩
    have he : (Except.error e0 : uR) = .error e := he
    rw [← Except.error.inj he]
    obtain ⟨τ1, p1, p2, p3, p4, p5⟩ := hL.2 e0 hr
    have m : pm_uf (47 :: pm_UK) τ1 (sw_uI τ1 0 47 ((τ1.1 0 47) + 1)) := (pm_uf.refl _ τ1).K (by decide) _
    refine ⟨_, ?_, ⟨by rw [pz_Ik (by decide)]; exact p2.1, by rw [pz_Ik (by decide)]; exact p2.2⟩, (p3.mono (by decide)).trans m, p4, p5⟩
    rw [p1]
    unfold S_X11_statementTold_177
    rw [pm_asksSgD (pm_eq0 p2.1 p4 p5)]
    rfl
  | ok q0 =>
    obtain ⟨τ1, p1, p2, p3, p4⟩ := hL.1 q0 hr
    have hb := hq q0 hr
    have hes := tk_e_sp t hb
    have hss := tk_s_sp t hb
    obtain ⟨a1, a2⟩ := pm_asksSg p2 ht hN hb hsg
    have e47 : τ1.1 0 47 = nI c := by rw [p4.2.1 47 (by decide)]; exact h47
    have eu : ub (Except.ok q0) (fun q => pu_exp t N 59 q.2 (fun b2 => .ok (q.1, b2))) = (pu_exp t N 59 q0.2 (fun b2 => .ok (q0.1, b2)) : uR) := rfl
    rw [eu, p1]
    unfold pu_exp S_X11_statementTold_177
    by_cases d : tk_k t N q0.2 = 59
    · obtain ⟨τ2, s1, s2, s3⟩ := a1 d
      have m : pm_sm [] [47] τ2 (sw_uI τ2 0 47 (nI (c + 1))) := (pm_sm.refl _ _ τ2).K (by decide) _
      rw [if_pos d]
      refine ⟨fun q hq => ?_, fun e he => (by cases he)⟩
      rw [← Except.ok.inj hq]
      refine ⟨sw_uI τ2 0 47 (nI (c + 1)), ?_, s2.mv m (by decide) (by decide), ((p3.mv s3 (by decide) (by decide) (show q0.2 ≤ tk_e t N q0.2 by omega)).mv m (by decide) (by decide) (Nat.le_refl _)), ((p4.mono (by decide)).trans (s3.uf (by decide) (by decide))).trans (m.uf (by decide) (by decide)), pz_Ie rfl rfl⟩
      rw [show F_X11_asksSign τ1 59 = _ from s1]
      dsimp only [Option.bind_some]
      rw [s3.2.1 47 (by decide), e47, nI_1]
    · obtain ⟨τ2, s1, s2, s3⟩ := a2 d
      rw [if_neg d]
      refine ⟨fun q hq => (by cases hq), fun e he => ?_⟩
      rw [← Except.error.inj he]
      have m : pm_uf (47 :: pm_UK) τ2 (sw_uI τ2 0 47 ((τ2.1 0 47) + 1)) := (pm_uf.refl _ τ2).K (by decide) _
      refine ⟨_, ?_, ⟨by rw [pz_Ik (by decide)]; exact s2.1, by rw [pz_Ik (by decide)]; exact s2.2⟩, ((p4.mono (by decide)).trans (s3.uf (by decide) (by decide))).trans m, (by omega : 0 < 1), (by omega : 1 < 100)⟩
      rw [show F_X11_asksSign τ1 59 = _ from s1]
      rfl
theorem pm_ust {t : Nat → Nat} {N b c : Nat} {u : g_U} {τ : sw_St} (hu : pu_ok u) (ht : ∀ i, t i < 256) (hN : N ≤ 1600) (hb : b ≤ N) (hs : pm_pa τ t N b) (hM : pu_M τ u b) (hc : c < 60) (h47 : τ.1 0 47 = nI c) :
    (∀ q, ub (pu_st t N u b) (fun q => pu_exp t N 59 q.2 (fun b2 => .ok (q.1, b2))) = (.ok q : uR) → ∃ τ', F_X11_statementTold τ = some ((), τ') ∧ pm_ps τ' t N q.2 ∧ pu_M τ' q.1 q.2 ∧ pm_uf (47 :: pm_UK) τ τ' ∧ τ'.1 0 47 = nI (c + 1)) ∧ (∀ e, ub (pu_st t N u b) (fun q => pu_exp t N 59 q.2 (fun b2 => .ok (q.1, b2))) = (.error e : uR) → ∃ τ', F_X11_statementTold τ = some ((), τ') ∧ pm_bad τ' e.1 e.2 ∧ pm_uf (47 :: pm_UK) τ τ' ∧ 0 < e.1 ∧ e.1 < 100) := by
  have hes := tk_e_sp t hb
  have hss := tk_s_sp t hb
  refine pm_u177 ht hN hc h47 ?_ (fun q hq => (pu_st_ok ht hb hu hq).2.2)
  have tak : ∀ (x : Nat × Nat), x ∈ pm_ck → ∀ τa, pm_pa τa t N b → pu_M τa u b → pm_uf pm_UK τ τa → (tk_k t N b = x.2 → ∃ τ', F_X11_takes τa x.1 = some (1, τ') ∧ pm_ps τ' t N (tk_e t N b) ∧ pu_M τ' u (tk_e t N b) ∧ pm_uf pm_UK τ τ') ∧ (¬ tk_k t N b = x.2 → ∃ τ', F_X11_takes τa x.1 = some (0, τ') ∧ pm_pa τ' t N b ∧ pu_M τ' u b ∧ pm_uf pm_UK τ τ') := fun x hx τa h1 h2 h3 => by
    obtain ⟨a1, a2⟩ := pm_takes (h1.ps hb) ht hN hb hx
    refine ⟨fun k => ?_, fun k => ?_⟩
    · obtain ⟨τ', p1, p2, p3⟩ := a1 k
      exact ⟨τ', p1, p2, h2.mv p3 (by decide) (by decide) (by omega), h3.trans (p3.uf (by decide) (by decide))⟩
    · obtain ⟨τ', p1, p2, p3⟩ := a2 k
      exact ⟨τ', p1, p2, h2.mv p3 (by decide) (by decide) (by omega), h3.trans (p3.uf (by decide) (by decide))⟩
  have run : ∀ (τa : sw_St) (f : sw_St → Option (Unit × sw_St)) (r : uR), pm_uc t N u f (tk_e t N b) r → pm_ps τa t N (tk_e t N b) → pu_M τa u (tk_e t N b) → pm_uf pm_UK τ τa → ((∀ q, r = .ok q → ∃ τ', ((f τa).bind fun q => S_X11_statementTold_177 q.2) = S_X11_statementTold_177 τ' ∧ pm_ps τ' t N q.2 ∧ pu_M τ' q.1 q.2 ∧ pm_uf pm_UK τ τ') ∧ (∀ e, r = .error e → ∃ τ', ((f τa).bind fun q => S_X11_statementTold_177 q.2) = S_X11_statementTold_177 τ' ∧ pm_bad τ' e.1 e.2 ∧ pm_uf pm_UK τ τ' ∧ 0 < e.1 ∧ e.1 < 100)) := fun τa f r h h1 h2 h3 => by
    obtain ⟨a1, a2⟩ := h τa h1 h2
    refine ⟨fun q hq => ?_, fun e he => ?_⟩
    · obtain ⟨τ', p1, p2, p3, p4⟩ := a1 q hq
      exact ⟨τ', by rw [p1]; rfl, p2, p3, h3.trans p4⟩
    · obtain ⟨τ', p1, p2, p3, p4⟩ := a2 e he
      exact ⟨τ', by rw [p1]; rfl, p2, h3.trans p3, p4⟩
  unfold F_X11_statementTold
  rw [if_neg (show ¬ τ.1 0 47 = 60 from fun y => by rw [h47] at y; have := (nI_eq (b := 60) (by omega) (by omega)).mp y; omega), hs.2.1]
  obtain ⟨y1, n1⟩ := tak (3, 256) (by decide) τ hs hM (pm_uf.refl _ _)
  by_cases c1 : tk_k t N b = 256
  · obtain ⟨τ1, p1, p2, p3, p4⟩ := y1 c1
    rw [show F_X11_takes τ 3 = _ from p1]
    dsimp only [Option.bind_some]
    rw [if_neg pz_10]
    have eP : pu_st t N u b = pu_field t N u b := by unfold pu_st; rw [if_pos c1]
    rw [eP]
    exact run τ1 _ _ (pm_ufd hu ht hN hb) p2 p3 p4
  obtain ⟨τ1, p1, p2, p3, p4⟩ := n1 c1
  rw [show F_X11_takes τ 3 = _ from p1]
  dsimp only [Option.bind_some]
  rw [if_pos rfl]
  obtain ⟨y2, n2⟩ := tak (5, 258) (by decide) τ1 p2 p3 p4
  by_cases c2 : tk_k t N b = 258
  · obtain ⟨τ2, q1, q2, q3, q4⟩ := y2 c2
    rw [show F_X11_takes τ1 5 = _ from q1]
    dsimp only [Option.bind_some]
    rw [if_neg pz_10]
    have eP : pu_st t N u b = pu_gap t N u b := by unfold pu_st; rw [if_neg c1, if_pos c2]
    rw [eP]
    exact run τ2 _ _ (pm_ugd hu ht hN hb) q2 q3 q4
  obtain ⟨τ2, q1, q2, q3, q4⟩ := n2 c2
  rw [show F_X11_takes τ1 5 = _ from q1]
  dsimp only [Option.bind_some]
  rw [if_pos rfl]
  clear p1 p2 p3 p4 y1 n1 y2 n2
  obtain ⟨y3, n3⟩ := tak (8, 261) (by decide) τ2 q2 q3 q4
  by_cases c3 : tk_k t N b = 261
  · obtain ⟨τ3, r1, r2, r3, r4⟩ := y3 c3
    rw [show F_X11_takes τ2 8 = _ from r1]
    dsimp only [Option.bind_some]
    rw [if_neg pz_10]
    have eP : pu_st t N u b = pu_shut t N u b := by unfold pu_st; rw [if_neg c1, if_neg c2, if_pos c3]
    rw [eP]
    exact run τ3 _ _ (pm_uod hu ht hN hb) r2 r3 r4
  obtain ⟨τ3, r1, r2, r3, r4⟩ := n3 c3
  rw [show F_X11_takes τ2 8 = _ from r1]
  dsimp only [Option.bind_some]
  rw [if_pos rfl]
  obtain ⟨y4, n4⟩ := tak (9, 262) (by decide) τ3 r2 r3 r4
  by_cases c4 : tk_k t N b = 262
  · obtain ⟨τ4, s1, s2, s3, s4⟩ := y4 c4
    rw [show F_X11_takes τ3 9 = _ from s1]
    dsimp only [Option.bind_some]
    rw [if_neg pz_10]
    have eP : pu_st t N u b = pu_sheep t N u b := by unfold pu_st; rw [if_neg c1, if_neg c2, if_neg c3, if_pos c4]
    rw [eP]
    exact run τ4 _ _ (pm_usd hu ht hN hb) s2 s3 s4
  obtain ⟨τ4, s1, s2, s3, s4⟩ := n4 c4
  rw [show F_X11_takes τ3 9 = _ from s1]
  dsimp only [Option.bind_some]
  rw [if_pos rfl]
  obtain ⟨y5, n5⟩ := tak (12, 265) (by decide) τ4 s2 s3 s4
  by_cases c5 : tk_k t N b = 265
  · obtain ⟨τ5, v1, v2, v3, v4⟩ := y5 c5
    rw [show F_X11_takes τ4 12 = _ from v1]
    dsimp only [Option.bind_some]
    rw [if_neg pz_10]
    have eP : pu_st t N u b = pu_codes t N u 0 b := by unfold pu_st; rw [if_neg c1, if_neg c2, if_neg c3, if_neg c4, if_pos c5]
    rw [eP]
    exact run τ5 _ _ (pm_ucd (j := 0) hu ht hN hb (by omega)) v2 v3 v4
  obtain ⟨τ5, v1, v2, v3, v4⟩ := n5 c5
  rw [show F_X11_takes τ4 12 = _ from v1]
  dsimp only [Option.bind_some]
  rw [if_pos rfl]
  obtain ⟨y6, n6⟩ := tak (13, 266) (by decide) τ5 v2 v3 v4
  by_cases c6 : tk_k t N b = 266
  · obtain ⟨τ6, w1, w2, w3, w4⟩ := y6 c6
    rw [show F_X11_takes τ5 13 = _ from w1]
    dsimp only [Option.bind_some]
    rw [if_neg pz_10]
    have eP : pu_st t N u b = pu_codes t N u 1 b := by unfold pu_st; rw [if_neg c1, if_neg c2, if_neg c3, if_neg c4, if_neg c5, if_pos c6]
    rw [eP]
    exact run τ6 _ _ (pm_ucd (j := 1) hu ht hN hb (by omega)) w2 w3 w4
  obtain ⟨τ6, w1, w2, w3, w4⟩ := n6 c6
  rw [show F_X11_takes τ5 13 = _ from w1]
  dsimp only [Option.bind_some]
  rw [if_pos rfl]
  obtain ⟨y7, n7⟩ := tak (14, 267) (by decide) τ6 w2 w3 w4
  by_cases c7 : tk_k t N b = 267
  · obtain ⟨τ7, x1, x2, x3, x4⟩ := y7 c7
    rw [show F_X11_takes τ6 14 = _ from x1]
    dsimp only [Option.bind_some]
    rw [if_neg pz_10]
    have eP : pu_st t N u b = pu_codes t N u 2 b := by unfold pu_st; rw [if_neg c1, if_neg c2, if_neg c3, if_neg c4, if_neg c5, if_neg c6, if_pos c7]
    rw [eP]
    exact run τ7 _ _ (pm_ucd (j := 2) hu ht hN hb (by omega)) x2 x3 x4
  obtain ⟨τ7, x1, x2, x3, x4⟩ := n7 c7
  rw [show F_X11_takes τ6 14 = _ from x1]
  dsimp only [Option.bind_some]
  rw [if_pos rfl]
  -- the storm, or nothing known
  obtain ⟨a1, a2⟩ := pm_asks (x := (15, 268)) (x2.ps hb) ht hN hb (by decide)
  have e3 : (3 : Int32).toNatClampNeg = 3 := by decide
  have m28 : ∀ (τa : sw_St) (v : Int32), pm_uf pm_UK τa (sw_uI τa 28 3 v) := fun τa v => (pm_uf.refl _ τa).I (by decide) (by unfold pm_kp; omega) _
  by_cases c8 : tk_k t N b = 268
  · obtain ⟨τ8, k1, k2, k3⟩ := a1 c8
    have hM8 := x3.mv k3 (by decide) (by decide) (show b ≤ tk_e t N b by omega)
    have U8 : pm_uf pm_UK τ τ8 := x4.trans (k3.uf (by decide) (by decide))
    rw [show F_X11_asks τ7 15 = _ from k1]
    dsimp only [Option.bind_some]
    obtain ⟨g1, g2⟩ := pm_num2 (lo := 0) (lim := 101) (x2 := 100) k2 ht hN hes.2.1 (by decide) (by decide)
    have eP : pu_st t N u b = pu_storm t N u b := by unfold pu_st; rw [if_neg c1, if_neg c2, if_neg c3, if_neg c4, if_neg c5, if_neg c6, if_neg c7, if_pos c8]
    rw [eP]
    unfold pu_storm
    cases hn : tk_num t N 0 101 (tk_e t N b) with
    | error e0 =>
      refine ⟨fun q hq => (by cases hq), fun e he => ?_⟩
      have he : (Except.error e0 : uR) = .error e := he
      rw [← Except.error.inj he]
      obtain ⟨τ9, v, z0, z1, z2, z3, z4, z5⟩ := g2 e0 hn
      refine ⟨sw_uI τ9 28 3 (nI v), ?_, ⟨by rw [pz_Io (by decide)]; exact z2.1, by rw [pz_Io (by decide)]; exact z2.2⟩, (U8.trans z3.uf).trans (m28 _ _), z4, z5⟩
      rw [show F_X11_number τ8 0 100 = _ from z1]
      dsimp only [Option.bind_some]
      rw [if_pos (show sw_inb 3 8 = true from pz_inb (n := 3) (by omega) (by omega)), e3]
    | ok r =>
      obtain ⟨τ9, z1, z2, z3, z4⟩ := g1 r hn
      have f1 := tk_num_ok hes.2.1 hn
      have hM9 := z3.M hM8 (show tk_e t N b ≤ r.2 by omega)
      refine ⟨fun q hq => ?_, fun e he => (by cases he)⟩
      have hq : (Except.ok (u_w u r.1, r.2) : uR) = .ok q := hq
      rw [← Except.ok.inj hq]
      have r0 : ∀ o j, (o ≠ 28 ∨ j ≠ 3) → (sw_uI τ9 28 3 (nI r.1)).1 o j = τ9.1 o j := fun o j h => by rw [pz_I, if_neg (by omega)]
      refine ⟨sw_uI τ9 28 3 (nI r.1), ?_, z2.mvW (m28 _ _) (r0 _ _ (by decide)) (r0 _ _ (by decide)) (r0 _ _ (by decide)) (r0 _ _ (by decide)), ?_, (U8.trans z3.uf).trans (m28 _ _)⟩
      · rw [show F_X11_number τ8 0 100 = _ from z1]
        dsimp only [Option.bind_some]
        rw [if_pos (show sw_inb 3 8 = true from pz_inb (n := 3) (by omega) (by omega)), e3]
      · obtain ⟨a1, b1, b2, b3, b4, b5, b6, n, d1, d2, d3⟩ := hM9
        obtain ⟨e1, e2⟩ := u_w_el (u := u) (x := r.1)
        refine ⟨⟨by rw [r0 _ _ (by decide)]; exact a1.1, by rw [r0 _ _ (by decide)]; exact a1.2.1, a1.2.2.1, a1.2.2.2⟩, by rw [r0 _ _ (by decide)]; exact b1, by rw [e1]; exact pz_Ie rfl rfl, fun f hf => by rw [r0 _ _ (Or.inl (by decide))]; exact b3 f hf, fun j hj => by rw [r0 _ _ (Or.inl (by decide))]; exact b4 j hj, fun j hj => by rw [r0 _ _ (Or.inl (by decide))]; exact b5 j hj, fun k hk => by rw [r0 _ _ (Or.inl (by decide))]; exact b6 k hk, n, by rw [r0 _ _ (by decide)]; exact d1, d2, fun i hi => ?_⟩
        rw [r0 _ _ (Or.inl (by decide)), r0 _ _ (Or.inl (by decide))]
        rcases d3 i hi with y | ⟨y1, a, y2, y3, y4, y5⟩
        · exact Or.inl y
        · exact Or.inr ⟨y1, a, y2, y3, y4, fun k hk => by rw [r0 _ _ (Or.inl (by decide))]; exact y5 k hk⟩
  · obtain ⟨τ8, k1, k2, k3⟩ := a2 c8
    have U8 : pm_uf pm_UK τ τ8 := x4.trans (k3.uf (by decide) (by decide))
    rw [show F_X11_asks τ7 15 = _ from k1]
    dsimp only [Option.bind_some]
    rw [pm_numberD (pm_eq0 k2.1 (by omega) (by omega))]
    dsimp only [Option.bind_some]
    rw [if_pos (show sw_inb 3 8 = true from pz_inb (n := 3) (by omega) (by omega)), e3]
    have eP : pu_st t N u b = .error (1, tk_s t N b) := by unfold pu_st; rw [if_neg c1, if_neg c2, if_neg c3, if_neg c4, if_neg c5, if_neg c6, if_neg c7, if_neg c8]
    rw [eP]
    refine ⟨fun q hq => (by cases hq), fun e he => ?_⟩
    rw [← Except.error.inj he]
    exact ⟨_, rfl, ⟨by rw [pz_Io (by decide)]; exact k2.1, by rw [pz_Io (by decide)]; exact k2.2⟩, U8.trans (m28 _ _), (by omega : 0 < 1), (by omega : 1 < 100)⟩
theorem pm_uall {t : Nat → Nat} {N : Nat} (ht : ∀ i, t i < 256) (hN : N ≤ 1600) : ∀ (k fuel c b : Nat) (u : g_U) (τ : sw_St), pu_ok u → pm_ps τ t N b → pu_M τ u b → τ.1 0 47 = nI c → b ≤ N → c ≤ 60 → 61 ≤ c + k → k < fuel →
    (∀ q, pu_all t N k u c b = .ok q → ∃ τ', L_X11_upland_83 fuel τ = S_X11_upland_105 τ' ∧ τ'.1 0 5 = 0 ∧ τ'.1 0 6 = -1 ∧ pu_M τ' q.1 N ∧ τ'.1 0 47 = nI q.2 ∧ q.2 ≤ 60 ∧ pm_uf (47 :: pm_UK) τ τ') ∧
    (∀ e, pu_all t N k u c b = .error e → ∃ τ', L_X11_upland_83 fuel τ = S_X11_upland_105 τ' ∧ pm_bad τ' e.1 e.2 ∧ pm_uf (47 :: pm_UK) τ τ' ∧ 0 < e.1 ∧ e.1 < 100)
  | 0, fuel, c, b, u, τ, hu, hs, hM, h47, hb, hc, hck, hf => by omega
  | k + 1, 0, c, b, u, τ, hu, hs, hM, h47, hb, hc, hck, hf => by omega
  | k + 1, fuel + 1, c, b, u, τ, hu, hs, hM, h47, hb, hc, hck, hf => by
    have hfd : ∀ τ2 : sw_St, ¬ τ2.1 0 5 = 0 → L_X11_upland_83 fuel τ2 = S_X11_upland_105 τ2 := fun τ2 h5 => by
      match fuel, hf with
      | fuel + 1, _ =>
        show S_X11_upland_83 _ τ2 = _
        unfold S_X11_upland_83
        rw [if_neg h5]
    obtain ⟨τ1, p1, p2, p3⟩ := pm_look hs ht hN hb
    have hM1 := hM.mv p3 (by decide) (by decide) (Nat.le_refl b)
    have U1 : pm_uf (47 :: pm_UK) τ τ1 := p3.uf (by decide) (by decide)
    have e47 : τ1.1 0 47 = nI c := by rw [p3.2.1 47 (by decide)]; exact h47
    have eL : L_X11_upland_83 (fuel + 1) τ = if tk_c t N b = -1 then S_X11_upland_105 τ1 else (F_X11_statementTold τ1).bind fun q2 => L_X11_upland_83 fuel q2.2 := by
      show S_X11_upland_83 _ τ = _
      unfold S_X11_upland_83
      rw [if_pos hs.2.2.1, p1]
      rfl
    have eP : pu_all t N (k + 1) u c b = if tk_k t N b = 301 then .ok (u, c) else if c = 60 then .error (5, tk_s t N b) else ub (pu_st t N u b) (fun q => pu_exp t N 59 q.2 (fun b2 => pu_all t N k q.1 (c + 1) b2)) := rfl
    rw [eL, eP]
    by_cases d1 : tk_k t N b = 301
    · rw [if_pos d1, if_pos ((tk_c301 ht).mpr d1)]
      refine ⟨fun q hq => ?_, fun e he => (by cases he)⟩
      rw [← Except.ok.inj hq]
      exact ⟨τ1, rfl, p2.2.2.1, p2.1.2.2.2, hM1.mv (pm_sm.refl [] [] τ1) (by decide) (by decide) hb, e47, hc, U1⟩
    · rw [if_neg d1, if_neg (fun y => d1 ((tk_c301 ht).mp y))]
      by_cases d2 : c = 60
      · rw [if_pos d2]
        refine ⟨fun q hq => (by cases hq), fun e he => ?_⟩
        rw [← Except.error.inj he]
        obtain ⟨τ2, q1, q2, q3⟩ := pm_failN (τ := τ1) (kd := 5) (pl := tk_s t N b) p2.2.2.1
        refine ⟨τ2, ?_, q2, U1.trans (q3.uf (by decide) (by decide)), (by omega : 0 < 5), (by omega : 5 < 100)⟩
        unfold F_X11_statementTold
        rw [if_pos (show τ1.1 0 47 = 60 from by rw [e47, d2]; rfl), p2.2.1, show F_X11_fail τ1 5 (nI (tk_s t N b)) = _ from q1]
        exact hfd τ2 (pm_eq0 q2.1 (by omega) (by omega))
      · rw [if_neg d2]
        obtain ⟨a1, a2⟩ := pm_ust hu ht hN hb p2 hM1 (show c < 60 by omega) e47
        -- one statement, then the rest
        have key : ∀ r, pu_st t N u b = r → (∀ q0, r = .ok q0 → tk_k t N q0.2 = 59 → ((∀ q, pu_all t N k q0.1 (c + 1) (tk_e t N q0.2) = .ok q → ∃ τ', ((F_X11_statementTold τ1).bind fun q2 => L_X11_upland_83 fuel q2.2) = S_X11_upland_105 τ' ∧ τ'.1 0 5 = 0 ∧ τ'.1 0 6 = -1 ∧ pu_M τ' q.1 N ∧ τ'.1 0 47 = nI q.2 ∧ q.2 ≤ 60 ∧ pm_uf (47 :: pm_UK) τ τ') ∧ (∀ e, pu_all t N k q0.1 (c + 1) (tk_e t N q0.2) = .error e → ∃ τ', ((F_X11_statementTold τ1).bind fun q2 => L_X11_upland_83 fuel q2.2) = S_X11_upland_105 τ' ∧ pm_bad τ' e.1 e.2 ∧ pm_uf (47 :: pm_UK) τ τ' ∧ 0 < e.1 ∧ e.1 < 100))) := fun r hr q0 h0 h59 => by
          rw [h0] at hr
          obtain ⟨f1, f2, f3⟩ := pu_st_ok ht hb hu hr
          have hes := tk_e_sp t f3
          obtain ⟨τ2, s1, s2, s3, s4, s5⟩ := a1 (q0.1, tk_e t N q0.2) (by
            rw [hr]
            show pu_exp t N 59 q0.2 (fun b2 => Except.ok (q0.1, b2)) = _
            unfold pu_exp
            rw [if_pos h59])
          obtain ⟨i1, i2⟩ := pm_uall ht hN k fuel (c + 1) (tk_e t N q0.2) q0.1 τ2 f1 s2 s3 s5 hes.2.1 (by omega) (by omega) (by omega)
          rw [s1]
          dsimp only [Option.bind_some]
          refine ⟨fun q hq => ?_, fun e he => ?_⟩
          · obtain ⟨τ', v1, v2, v3, v4, v5, v6, v7⟩ := i1 q hq
            exact ⟨τ', v1, v2, v3, v4, v5, v6, (U1.trans s4).trans v7⟩
          · obtain ⟨τ', v1, v2, v3, v4⟩ := i2 e he
            exact ⟨τ', v1, v2, (U1.trans s4).trans v3, v4⟩
        have bad : ∀ e, ub (pu_st t N u b) (fun q => pu_exp t N 59 q.2 (fun b2 => .ok (q.1, b2))) = (.error e : uR) → ∃ τ', ((F_X11_statementTold τ1).bind fun q2 => L_X11_upland_83 fuel q2.2) = S_X11_upland_105 τ' ∧ pm_bad τ' e.1 e.2 ∧ pm_uf (47 :: pm_UK) τ τ' ∧ 0 < e.1 ∧ e.1 < 100 := fun e he => by
          obtain ⟨τ2, s1, s2, s3, s4, s5⟩ := a2 e he
          refine ⟨τ2, ?_, s2, U1.trans s3, s4, s5⟩
          rw [s1]
          exact hfd τ2 (pm_eq0 s2.1 s4 s5)
        cases hr : pu_st t N u b with
        | error e0 =>
          refine ⟨fun q hq => (by cases hq), fun e he => bad e ?_⟩
          rw [hr]
          exact congrArg Except.error (Except.error.inj (show (Except.error e0 : Except (Nat × Nat) (g_U × Nat)) = .error e from he))
        | ok q0 =>
          have eu : ub (Except.ok q0) (fun q => pu_exp t N 59 q.2 (fun b2 => pu_all t N k q.1 (c + 1) b2)) = pu_exp t N 59 q0.2 (fun b2 => pu_all t N k q0.1 (c + 1) b2) := rfl
          rw [eu]
          unfold pu_exp
          by_cases d3 : tk_k t N q0.2 = 59
          · rw [if_pos d3]
            exact key _ hr q0 rfl d3
          · rw [if_neg d3]
            refine ⟨fun q hq => (by cases hq), fun e he => bad e ?_⟩
            rw [hr]
            show pu_exp t N 59 q0.2 (fun b2 => Except.ok (q0.1, b2)) = _
            unfold pu_exp
            rw [if_neg d3]
            exact congrArg Except.error (Except.error.inj he)

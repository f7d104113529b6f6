/-! A question is read: the reference. -/
theorem tk_c301 {t : Nat → Nat} {N b : Nat} (ht : ∀ i, t i < 256) : tk_c t N b = -1 ↔ tk_k t N b = 301 := by
  have hix := tk_ix_le t (tk_s t N b) (tk_e t N b) tk_wd 256 (by decide)
  have h256 := ht (tk_s t N b)
  unfold tk_c tk_k
  by_cases c : tk_s t N b < N
  · rw [if_pos c, if_pos c]
    constructor
    · intro z
      exact absurd z (pz_nm1 (by omega))
    · intro z
      exfalso
      split at z
      · split at z <;> omega
      · split at z
        · split at z <;> omega
        · omega
  · rw [if_neg c, if_neg c]
    exact ⟨fun _ => rfl, fun _ => rfl⟩
theorem pm_qKind {τ : sw_St} {t : Nat → Nat} {N : Nat} (h : pm_ps τ t N 0) (ht : ∀ i, t i < 256) (hN : N ≤ 1600) :
    (281 ≤ tk_k t N 0 ∧ tk_k t N 0 ≤ 286 → ∃ τ', F_X11_qKind τ = some (nI (tk_k t N 0 - 281), τ') ∧ pm_ps τ' t N (tk_e t N 0) ∧ pm_sm [] [2, 4, 5, 6] τ τ') ∧
    (¬ (281 ≤ tk_k t N 0 ∧ tk_k t N 0 ≤ 286) → ∃ τ', F_X11_qKind τ = some (5, τ') ∧ pm_bad τ' 1 (tk_s t N 0) ∧ pm_sm [] [2, 4, 5, 6] τ τ') := by
  have hb : 0 ≤ N := Nat.zero_le _
  unfold F_X11_qKind S_X11_qKind_76 S_X11_qKind_90
  obtain ⟨a1, a2⟩ := pm_takes (x := (47, 281)) h ht hN hb (by decide)
  by_cases c1 : tk_k t N 0 = 281
  · obtain ⟨τ1, p1, p2, p3⟩ := a1 c1
    refine ⟨fun _ => ⟨τ1, ?_, p2, p3.mono (by decide) (by decide)⟩, fun z => absurd c1 (by omega)⟩
    rw [show F_X11_takes τ 47 = _ from p1, c1]
    dsimp only [Option.bind_some]
    rw [if_neg pz_10, if_neg (by decide)]
    rfl
  obtain ⟨τ1, p1, p2, p3⟩ := a2 c1
  rw [show F_X11_takes τ 47 = _ from p1]
  dsimp only [Option.bind_some]
  rw [if_pos rfl]
  have m1 : pm_sm [] [2, 4, 5, 6] τ τ1 := p3.mono (by decide) (by decide)
  obtain ⟨a1, a2⟩ := pm_takes (x := (48, 282)) (p2.ps hb) ht hN hb (by decide)
  by_cases c2 : tk_k t N 0 = 282
  · obtain ⟨τ2, q1, q2, q3⟩ := a1 c2
    refine ⟨fun _ => ⟨τ2, ?_, q2, m1.trans (q3.mono (by decide) (by decide))⟩, fun z => absurd c2 (by omega)⟩
    rw [show F_X11_takes τ1 48 = _ from q1, c2]
    dsimp only [Option.bind_some]
    rw [if_neg pz_10, if_neg (by decide)]
    rfl
  obtain ⟨τ2, q1, q2, q3⟩ := a2 c2
  rw [show F_X11_takes τ1 48 = _ from q1]
  dsimp only [Option.bind_some]
  rw [if_pos rfl]
  have m2 : pm_sm [] [2, 4, 5, 6] τ τ2 := m1.trans (q3.mono (by decide) (by decide))
  obtain ⟨a1, a2⟩ := pm_takes (x := (49, 283)) (q2.ps hb) ht hN hb (by decide)
  by_cases c3 : tk_k t N 0 = 283
  · obtain ⟨τ3, r1, r2, r3⟩ := a1 c3
    refine ⟨fun _ => ⟨τ3, ?_, r2, m2.trans (r3.mono (by decide) (by decide))⟩, fun z => absurd c3 (by omega)⟩
    rw [show F_X11_takes τ2 49 = _ from r1, c3]
    dsimp only [Option.bind_some]
    rw [if_neg pz_10, if_neg (by decide)]
    rfl
  obtain ⟨τ3, r1, r2, r3⟩ := a2 c3
  rw [show F_X11_takes τ2 49 = _ from r1]
  dsimp only [Option.bind_some]
  rw [if_pos rfl]
  have m3 : pm_sm [] [2, 4, 5, 6] τ τ3 := m2.trans (r3.mono (by decide) (by decide))
  obtain ⟨a1, a2⟩ := pm_takes (x := (50, 284)) (r2.ps hb) ht hN hb (by decide)
  by_cases c4 : tk_k t N 0 = 284
  · obtain ⟨τ4, s1, s2, s3⟩ := a1 c4
    refine ⟨fun _ => ⟨τ4, ?_, s2, m3.trans (s3.mono (by decide) (by decide))⟩, fun z => absurd c4 (by omega)⟩
    rw [show F_X11_takes τ3 50 = _ from s1, c4]
    dsimp only [Option.bind_some]
    rw [if_neg pz_10, if_neg (by decide)]
    rfl
  obtain ⟨τ4, s1, s2, s3⟩ := a2 c4
  rw [show F_X11_takes τ3 50 = _ from s1]
  dsimp only [Option.bind_some]
  rw [if_pos rfl]
  have m4 : pm_sm [] [2, 4, 5, 6] τ τ4 := m3.trans (s3.mono (by decide) (by decide))
  obtain ⟨a1, a2⟩ := pm_takes (x := (51, 285)) (s2.ps hb) ht hN hb (by decide)
  by_cases c5 : tk_k t N 0 = 285
  · obtain ⟨τ5, u1, u2, u3⟩ := a1 c5
    refine ⟨fun _ => ⟨τ5, ?_, u2, m4.trans (u3.mono (by decide) (by decide))⟩, fun z => absurd c5 (by omega)⟩
    rw [show F_X11_takes τ4 51 = _ from u1, c5]
    dsimp only [Option.bind_some]
    rw [if_neg pz_10, if_neg (by decide)]
    rfl
  obtain ⟨τ5, u1, u2, u3⟩ := a2 c5
  rw [show F_X11_takes τ4 51 = _ from u1]
  dsimp only [Option.bind_some]
  rw [if_pos rfl, if_pos rfl]
  have m5 : pm_sm [] [2, 4, 5, 6] τ τ5 := m4.trans (u3.mono (by decide) (by decide))
  obtain ⟨a1, a2⟩ := pm_asks (x := (52, 286)) (u2.ps hb) ht hN hb (by decide)
  by_cases c6 : tk_k t N 0 = 286
  · obtain ⟨τ6, v1, v2, v3⟩ := a1 c6
    refine ⟨fun _ => ⟨τ6, ?_, v2, m5.trans (v3.mono (by decide) (by decide))⟩, fun z => absurd c6 (by omega)⟩
    rw [show F_X11_asks τ5 52 = _ from v1, c6]
    rfl
  · obtain ⟨τ6, v1, v2, v3⟩ := a2 c6
    refine ⟨fun z => absurd z (by omega), fun _ => ⟨τ6, ?_, v2, m5.trans (v3.mono (by decide) (by decide))⟩⟩
    rw [show F_X11_asks τ5 52 = _ from v1]
    rfl
/-- a question as the reference reads it -/
theorem pm_rq {τ : sw_St} {t : Nat → Nat} {N : Nat} (hq : pm_qs τ t N 3 0 [] [] 0 0) (ht : ∀ i, t i < 256) (hN : N ≤ 1600) (G : Option (Int64 × sw_St)) (hG : G = (F_X11_qKind τ).bind fun q1 => if (q1.2.1 0 5) = 0 then (if 3 ≤ q1.1 then (S_X11_ask_82 q1.2 q1.1) else ((F_X11_qTest q1.2 ).bind fun q2 => S_X11_ask_93 q2.2 q1.1)) else (S_X11_ask_82 q1.2 q1.1)) :
    (∀ q, pq_rd t N = .ok q → ∃ τ', G = S_X11_ask_117 τ' (nI (q.1 - 281)) ∧ τ'.1 0 5 = 0 ∧ τ'.1 0 6 = -1 ∧ pm_cd τ' 71 0 q.2 ∧ τ'.1 0 95 = nI q.2.length ∧ q.2.length ≤ 1600 ∧ pm_qf τ τ') ∧
    (∀ e, pq_rd t N = .error e → ∃ τ' x, G = S_X11_ask_117 τ' x ∧ τ'.1 0 5 = nI e.1 ∧ τ'.1 0 6 = nI e.2 ∧ 0 < e.1 ∧ e.1 < 100 ∧ pm_qf τ τ') := by
  have hb : 0 ≤ N := Nat.zero_le _
  obtain ⟨k1, k2⟩ := pm_qKind hq.1 ht hN
  unfold pq_rd
  by_cases c : 281 ≤ tk_k t N 0 ∧ tk_k t N 0 ≤ 286
  · obtain ⟨τ1, p1, p2, p3⟩ := k1 c
    rw [if_pos c]
    have hgt := tk_e_gt hb (show tk_k t N 0 ≠ 301 by omega)
    have hle := (tk_e_sp t hb).2.1
    have hq1 : pm_qs τ1 t N 3 (tk_e t N 0) [] [] 0 0 := hq.lx p3 (by decide) p2 (by omega)
    have f1 : pm_qf τ τ1 := p3.mono (by decide) (by decide)
    -- behind the codes
    have after : ∀ (τ2 : sw_St) (q0 : List Nat × Nat), pm_qs τ2 t N 3 q0.2 [] ([] ++ q0.1) 0 0 → pm_qf τ τ2 → q0.2 ≤ N → (tk_k t N q0.2 = 301 → ∃ τ', S_X11_ask_93 τ2 (nI (tk_k t N 0 - 281)) = S_X11_ask_117 τ' (nI (tk_k t N 0 - 281)) ∧ τ'.1 0 5 = 0 ∧ τ'.1 0 6 = -1 ∧ pm_cd τ' 71 0 q0.1 ∧ τ'.1 0 95 = nI q0.1.length ∧ q0.1.length ≤ 1600 ∧ pm_qf τ τ') ∧ (¬ tk_k t N q0.2 = 301 → ∃ τ' x, S_X11_ask_93 τ2 (nI (tk_k t N 0 - 281)) = S_X11_ask_117 τ' x ∧ τ'.1 0 5 = nI 1 ∧ τ'.1 0 6 = nI (tk_s t N q0.2) ∧ pm_qf τ τ') := fun τ2 q0 g1 g2 g3 => by
      rw [List.nil_append] at g1
      obtain ⟨τ3, r1, r2, r3⟩ := pm_look g1.1 ht hN g3
      have f3 : pm_qf τ τ3 := g2.trans (r3.mono (by decide) (by decide))
      unfold S_X11_ask_93
      rw [if_pos g1.1.2.2.1, r1]
      dsimp only [Option.bind_some]
      refine ⟨fun z => ⟨τ3, by rw [if_pos ((tk_c301 ht).mpr z)], r2.2.2.1, r2.1.2.2.2, fun i hi => ?_, ?_, ?_, f3⟩, fun z => ?_⟩
      · rw [r3.r (by decide) (by decide), Nat.zero_add]
        exact g1.2.1.2.1 i hi
      · rw [r3.2.1 95 (by decide)]
        exact g1.2.1.2.2.2.1
      · have := g1.2.2.2
        simp only [List.length_nil] at this
        omega
      · obtain ⟨τ4, s1, s2, s3⟩ := pm_failN (kd := 1) (pl := tk_s t N q0.2) r2.2.2.1
        refine ⟨τ4, _, by rw [if_neg (fun y => z ((tk_c301 ht).mp y)), r2.2.1, show F_X11_fail τ3 1 (nI (tk_s t N q0.2)) = _ from s1]; rfl, s2.1, s2.2, f3.trans (s3.mono (by decide) (by decide))⟩
    have hP : ∀ r, pp t N 3 sw_depth (pq_g (tk_k t N 0)) 0 (tk_e t N 0) = r → (∀ q0, r = .ok q0 → ∃ τ2, G = S_X11_ask_93 τ2 (nI (tk_k t N 0 - 281)) ∧ pm_qs τ2 t N 3 q0.2 [] ([] ++ q0.1) 0 0 ∧ pm_qf τ τ2 ∧ q0.2 ≤ N) ∧ (∀ e, r = .error e → ∃ τ2, G = S_X11_ask_93 τ2 (nI (tk_k t N 0 - 281)) ∧ pm_bad τ2 e.1 e.2 ∧ pm_qf τ τ2 ∧ 0 < e.1 ∧ e.1 < 100) := fun r hr => by
      rw [hG, p1]
      dsimp only [Option.bind_some]
      rw [if_pos hq1.1.2.2.1]
      by_cases c3 : 283 < tk_k t N 0
      · rw [show pq_g (tk_k t N 0) = 3 from by unfold pq_g; rw [if_pos c3]] at hr
        rw [if_pos (show (3 : Int32) ≤ nI (tk_k t N 0 - 281) from nI_le (a := 3) (by omega) (by omega))]
        unfold S_X11_ask_82
        rw [if_pos hq1.1.2.2.1]
        obtain ⟨i1, i2⟩ := pm_sums (k := sw_depth) hq1 ht hN (by omega) hle (by omega) (by unfold pp_nd sw_depth; omega) (by simp) (by omega)
        refine ⟨fun q0 h0 => ?_, fun e h0 => ?_⟩
        · obtain ⟨τ2, j1, j2, j3, j4, j5⟩ := i1 q0 (hr.trans h0)
          exact ⟨τ2, by rw [j1]; rfl, j2, f1.trans j3, j5⟩
        · obtain ⟨τ2, j1, j2, j3, j4⟩ := i2 e (hr.trans h0)
          exact ⟨τ2, by rw [j1]; rfl, j2.1, f1.trans j3, j4⟩
      · rw [show pq_g (tk_k t N 0) = 0 from by unfold pq_g; rw [if_neg c3]] at hr
        rw [if_neg (show ¬ (3 : Int32) ≤ nI (tk_k t N 0 - 281) from nI_ge (b := 3) (by omega) (by omega))]
        obtain ⟨i1, i2⟩ := pm_test (k := sw_depth) hq1 ht hN (by omega) hle (by unfold pp_nd sw_depth; omega)
        refine ⟨fun q0 h0 => ?_, fun e h0 => ?_⟩
        · obtain ⟨τ2, j1, j2, j3, j4, j5⟩ := i1 q0 (hr.trans h0)
          exact ⟨τ2, by rw [j1]; rfl, j2, f1.trans j3, j5⟩
        · obtain ⟨τ2, j1, j2, j3, j4⟩ := i2 e (hr.trans h0)
          exact ⟨τ2, by rw [j1]; rfl, j2, f1.trans j3, j4⟩
    cases hr : pp t N 3 sw_depth (pq_g (tk_k t N 0)) 0 (tk_e t N 0) with
    | error e0 =>
      dsimp only
      refine ⟨fun q hq => (by cases hq), fun e he => ?_⟩
      rw [← Except.error.inj he]
      obtain ⟨τ2, j1, j2, j3, j4⟩ := (hP _ hr).2 e0 rfl
      refine ⟨τ2, nI (tk_k t N 0 - 281), ?_, j2.1, j2.2, j4.1, j4.2, j3⟩
      rw [j1]
      unfold S_X11_ask_93
      rw [if_neg (by rw [j2.1]; exact nI_ne0 j4.1 (by omega))]
    | ok q0 =>
      dsimp only
      obtain ⟨τ2, j1, j2, j3, j4⟩ := (hP _ hr).1 q0 rfl
      obtain ⟨w1, w2⟩ := after τ2 q0 j2 j3 j4
      by_cases c4 : tk_k t N q0.2 = 301
      · rw [if_pos c4]
        refine ⟨fun q hq => ?_, fun e he => (by cases he)⟩
        rw [← Except.ok.inj hq]
        obtain ⟨τ', a1, a2, a3, a4, a5, a6, a7⟩ := w1 c4
        exact ⟨τ', j1.trans a1, a2, a3, a4, a5, a6, a7⟩
      · rw [if_neg c4]
        refine ⟨fun q hq => (by cases hq), fun e he => ?_⟩
        rw [← Except.error.inj he]
        obtain ⟨τ', x, a1, a2, a3, a4⟩ := w2 c4
        exact ⟨τ', x, j1.trans a1, a2, a3, by omega, by omega, a4⟩
  · obtain ⟨τ1, p1, p2, p3⟩ := k2 c
    rw [if_neg c]
    refine ⟨fun q hq => (by cases hq), fun e he => ?_⟩
    rw [← Except.error.inj he]
    have n5 : ¬ τ1.1 0 5 = 0 := by rw [p2.1]; exact nI_ne0 (by omega) (by omega)
    refine ⟨τ1, 5, ?_, p2.1, p2.2, by omega, by omega, p3.mono (by decide) (by decide)⟩
    rw [hG, p1]
    dsimp only [Option.bind_some]
    rw [if_neg n5]
    unfold S_X11_ask_82 S_X11_ask_93
    rw [if_neg n5, if_neg n5]

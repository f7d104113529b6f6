/-! A question: both sides together. -/
theorem pq_typ {t : Nat → Nat} {N : Nat} {q : Nat × List Nat} (h : pq_rd t N = .ok q) : (281 ≤ q.1 ∧ q.1 ≤ 286) ∧ ∃ y, pe_wt 3 q.2 [] = some [y] ∧ (q.1 ≤ 283 → y = 1) := by
  unfold pq_rd at h
  by_cases c : 281 ≤ tk_k t N 0 ∧ tk_k t N 0 ≤ 286
  · rw [if_pos c] at h
    cases hr : pp t N 3 sw_depth (pq_g (tk_k t N 0)) 0 (tk_e t N 0) with
    | error e =>
      rw [hr] at h
      cases h
    | ok q0 =>
      rw [hr] at h
      dsimp only at h
      by_cases c4 : tk_k t N q0.2 = 301
      · rw [if_pos c4] at h
        rw [← Except.ok.inj h]
        have hg : pq_g (tk_k t N 0) ≤ 3 := by unfold pq_g; split <;> omega
        have := pp_typ (t := t) (N := N) (use := 3) (by omega) sw_depth (pq_g (tk_k t N 0)) 0 (tk_e t N 0) (by omega) (by omega) q0 hr [] (by simp; omega)
        refine ⟨c, _, this, fun z => ?_⟩
        have z : tk_k t N 0 ≤ 283 := z
        unfold pq_g
        rw [if_neg (show ¬ 283 < tk_k t N 0 by omega)]
        rfl
      · rw [if_neg c4] at h
        cases h
  · rw [if_neg c] at h
    cases h
theorem RX.flt {σ σ' : sw_St} {w : Nat} {l : Nat → Nat → Nat} {P : Nat → List Nat} {nm : g_N} {D : g_D} {U : List g_D} {F : List (Nat × Nat × Nat)} {T : List Nat} {sd : Nat} {rf : Nat → Int32} {ft : Int32 × Int32} {im : List Nat} {ft' : Int32 × Int32} (h : RX σ w l P nm D U F T sd rf ft im) (m : pz_sm [2, 4, 5, 32, 34, 35, 36] σ σ') (h5 : σ'.1 2 5 = ft'.1) (h6 : σ'.1 2 6 = ft'.2) (h34 : σ'.1 34 2 = nI 0) : RX σ' w l P nm D U F T sd rf ft' im :=
  h.gen m (by decide) (m.rR (by decide) 4) (h.2.2.2.1.mv (fun j hj => (m _ (by simp; omega)).1)) (h.2.2.2.2.1.mv m (by decide)) (h.2.2.2.2.2.1.mv (m.r (by decide) 4) (m 55 (by decide)).1) (h.2.2.2.2.2.2.1.mv (m.r (by decide) 1) (m 1 (by decide)).1) (by rw [m.r (by decide)]; exact h.2.2.2.2.2.2.2.1) (fun j hj => by rw [m.r (by decide)]; exact h.2.2.2.2.2.2.2.2.1 j hj) ⟨h5, h6⟩ (h.2.2.2.2.2.2.2.2.2.2.1.mv (m.r (by decide) 1) (m 225 (by decide)).1) h34 (h.2.2.2.2.2.2.2.2.2.2.2.2.mv (m 54 (by decide)).2.2)
theorem g_tlt {T : List Nat} (h : ∀ b ∈ T, b < 256) (i : Nat) : T.getD i 0 < 256 := by
  rw [List.getD_eq_getElem?_getD]
  cases e : T[i]? with
  | none =>
    show 0 < 256
    omega
  | some b => exact h b (List.mem_of_getElem? e)
theorem px_ask {σ : sw_St} {w : Nat} {l : Nat → Nat → Nat} {P : Nat → List Nat} {nm : g_N} {D : g_D} {U : List g_D} {F : List (Nat × Nat × Nat)} {T : List Nat} {sd : Nat} {rf : Nat → Int32} {ft : Int32 × Int32} {im : List Nat} (hG : RG l P nm D U F T sd im) (h : RX σ w l P nm D U F T sd rf ft im) :
    (∀ q, pq_rd (fun i => T.getD i 0) T.length = .ok q → ∃ σ', F_X10_ask σ = some (g_qr q.1 (g_qv l P D q.2) (l 0 2), σ') ∧ RX σ' w l P nm D U F [] sd rf (nI 0, -1) im) ∧
    (∀ e, pq_rd (fun i => T.getD i 0) T.length = .error e → ∃ σ', F_X10_ask σ = some (-1000000000000000, σ') ∧ RX σ' w l P nm D U F [] sd rf (nI e.1, nI e.2) im) := by
  have hX0 := h.tape0
  have hT := hG.2.2.2.2.2.1
  have hDk := hG.2.2.1
  obtain ⟨k1, k2⟩ := px_rq (σ := sw_uI σ 0 1 0) (t := fun i => T.getD i 0) (N := T.length) (g_tlt hT.2) hT.1 (fun i hi => by rw [pz_Io (by decide)]; exact h.2.2.2.2.2.2.1.2 i hi)
  unfold F_X10_ask F_X10_takeTape
  dsimp only [Option.bind_some]
  rw [h.2.2.2.2.2.2.1.1]
  refine ⟨fun q hq => ?_, fun e he => ?_⟩
  · obtain ⟨hk, y, hy, -⟩ := pq_typ hq
    obtain ⟨σ1, p1, p2, p3, p4, p5, p6, p7⟩ := k1 q hq
    have e34 : σ1.1 34 2 = nI 0 := by rw [p2.r (by decide)]; exact hX0.2.2.2.2.2.2.2.2.2.2.2.1
    have hX1 : RX σ1 w l P nm D U F [] sd rf (nI 0, -1) im := hX0.flt (p2.mono (by decide)) p3 p4 e34
    obtain ⟨σ2, q1, q2, q3⟩ := px_answer (σ := σ1) (Q := q.2) (kd := q.1) hG.1 hk (fun s hs => (hDk.2.2.2.1 s hs).1) (by have := hDk.1; omega) (by have h1 := hDk.2.2.1; have h2 : 2 ^ l 0 1 ≤ 2 ^ 10 := Nat.pow_le_pow_right (by omega) hG.1.2.1; omega) hy hX1.1 hX1.2.2.2.1 ⟨by omega, fun i hi => by rw [Nat.zero_add]; exact p7 i hi⟩ p5 e34
    refine ⟨σ2, ?_, hX1.flt (q2.mono (by decide)) (by rw [q2.r (by decide)]; exact p3) (by rw [q2.r (by decide)]; exact p4) q3⟩
    rw [p1]
    dsimp only [Option.bind_some]
    rw [if_neg (pz_nm1 (by omega)), q1]
    rfl
  · obtain ⟨σ1, p1, p2, p3, p4⟩ := k2 e he
    refine ⟨σ1, ?_, hX0.flt (p2.mono (by decide)) p3 p4 (by rw [p2.r (by decide)]; exact hX0.2.2.2.2.2.2.2.2.2.2.2.1)⟩
    rw [p1]
    dsimp only [Option.bind_some]
    rw [if_pos rfl]
    rfl

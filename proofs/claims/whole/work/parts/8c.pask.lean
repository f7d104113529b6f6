/-! A question is read: the class. -/
def pq_g (kd : Nat) : Nat := if 283 < kd then 3 else 0
/-- a question: its verb's kind and its codes -/
def pq_rd (t : Nat → Nat) (N : Nat) : Except (Nat × Nat) (Nat × List Nat) :=
  if 281 ≤ tk_k t N 0 ∧ tk_k t N 0 ≤ 286 then
    match pp t N 3 sw_depth (pq_g (tk_k t N 0)) 0 (tk_e t N 0) with
    | .error e => .error e
    | .ok q => if tk_k t N q.2 = 301 then .ok (tk_k t N 0, q.1) else .error (1, tk_s t N q.2)
  else .error (1, tk_s t N 0)
theorem pz_sm.R {S : List Nat} {σ σ' : sw_St} (h : pz_sm S σ σ') {o : Nat} (ho : o ∈ S) (k : Nat) (v : Option Nat) : pz_sm S σ (sw_uR σ' o k v) := fun o' h' => by
  obtain ⟨a1, a2, a3⟩ := h o' h'
  have hne : o' ≠ o := fun z => h' (by rw [z]; exact ho)
  refine ⟨a1, a2, ?_⟩
  rw [← a3]
  unfold sw_uR vf_upd
  funext k'
  dsimp only
  rw [if_neg hne]
theorem pz_Re {σ : sw_St} {o k : Nat} {v : Option Nat} : (sw_uR σ o k v).2.2 o k = v := by
  unfold sw_uR vf_upd
  simp
theorem px_open {σ : sw_St} {t : Nat → Nat} {N : Nat} (ht : ∀ i, t i < 256) (hN : N ≤ 1600) (h1 : ∀ i, i < N → σ.1 1 i = sB (t i)) : ∃ σ', F_X6_open σ 1 (nI N) = some ((), σ') ∧ px_rs σ' t N 0 ∧ pz_sm [2] σ σ' ∧ σ'.1 2 5 = nI 0 ∧ σ'.1 2 6 = -1 := by
  have m : pz_sm [2] σ (sw_uI (sw_uI (sw_uI (sw_uI (sw_uR σ 2 0 (some 1)) 2 1 (nI N)) 2 4 0) 2 5 0) 2 6 (-1)) := (((((pz_sm.refl _ σ).R (by decide) _ _).I (by decide) _ _).I (by decide) _ _).I (by decide) _ _).I (by decide) _ _
  have hx : px_tx (sw_uI (sw_uI (sw_uI (sw_uI (sw_uR σ 2 0 (some 1)) 2 1 (nI N)) 2 4 0) 2 5 0) 2 6 (-1)) t N := by
    refine ⟨?_, fun i hi => by rw [m.r (by decide)]; exact h1 i hi, by rw [pz_Ik (by decide), pz_Ik (by decide), pz_Ik (by decide), pz_Ie rfl rfl]⟩
    show (sw_uR σ 2 0 (some 1)).2.2 2 0 = some 1
    exact pz_Re
  obtain ⟨σ', p1, p2, p3⟩ := px_adv (b := 0) hx ht hN (by omega) (by rw [pz_Ik (by decide), pz_Ik (by decide), pz_Ie rfl rfl]; rfl)
  refine ⟨σ', ?_, p2, m.trans p3.1, ?_, ?_⟩
  · unfold F_X6_open F_J9_min_7cf53 S_J9_min_7cf53_10
    rw [if_pos sw_c1.2.1, sw_c1.2.2, if_neg (nI_nlt (by omega) (by omega))]
    dsimp only [Option.bind_some]
    rw [p1]
    rfl
  · rw [p3.2.2.1, pz_Ik (by decide), pz_Ie rfl rfl]
    rfl
  · rw [p3.2.2.2.1, pz_Ie rfl rfl]
theorem px_rq {σ : sw_St} {t : Nat → Nat} {N : Nat} (ht : ∀ i, t i < 256) (hN : N ≤ 1600) (h1 : ∀ i, i < N → σ.1 1 i = sB (t i)) :
    (∀ q, pq_rd t N = .ok q → ∃ σ', F_X3_readQuestion σ 1 (nI N) 4 = some (nI q.1, σ') ∧ pz_sm [2, 4, 5, 32] σ σ' ∧ σ'.1 2 5 = nI 0 ∧ σ'.1 2 6 = -1 ∧ σ'.1 4 1 = nI q.2.length ∧ q.2.length ≤ 1600 ∧ ∀ i, i < q.2.length → σ'.1 5 i = nI (px_xc (q.2.getD i 0))) ∧
    (∀ e, pq_rd t N = .error e → ∃ σ', F_X3_readQuestion σ 1 (nI N) 4 = some (-1, σ') ∧ pz_sm [2, 4, 5, 32] σ σ' ∧ σ'.1 2 5 = nI e.1 ∧ σ'.1 2 6 = nI e.2) := by
  have hc : px_isC 4 := Or.inl rfl
  obtain ⟨σ1, p1, p2, p3, p4, p5⟩ := px_open ht hN h1
  have hkl := tk_k_lt ht N 0
  have m2 : pz_sm [4, 32] σ1 (sw_uI (sw_uR (sw_uI σ1 4 1 0) 32 2 (some 4)) 32 3 3) := (((pz_sm.refl _ σ1).I (by decide) _ _).R (by decide) _ _).I (by decide) _ _
  have a2 : px_rs (sw_uI (sw_uR (sw_uI σ1 4 1 0) 32 2 (some 4)) 32 3 3) t N 0 := by
    obtain ⟨⟨b1, b2, b3⟩, b4, b5, b6⟩ := p2
    exact ⟨⟨by rw [m2.rR (by decide)]; exact b1, fun i hi => by rw [m2.r (by decide)]; exact b2 i hi, by rw [m2.r (by decide)]; exact b3⟩, by rw [m2.r (by decide)]; exact b4, by rw [m2.r (by decide)]; exact b5, by rw [m2.r (by decide)]; exact b6⟩
  have c1 : (sw_uI (sw_uR (sw_uI σ1 4 1 0) 32 2 (some 4)) 32 3 3).1 32 3 = nI 3 := pz_Ie rfl rfl
  have c2 : (sw_uI (sw_uR (sw_uI σ1 4 1 0) 32 2 (some 4)) 32 3 3).2.2 32 2 = some 4 := by
    show (sw_uR (sw_uI σ1 4 1 0) 32 2 (some 4)).2.2 32 2 = some 4
    exact pz_Re
  have c3 : (sw_uI (sw_uR (sw_uI σ1 4 1 0) 32 2 (some 4)) 32 3 3).1 4 1 = nI 0 := by
    rw [pz_Io (by decide)]
    show (sw_uI σ1 4 1 0).1 4 1 = nI 0
    exact pz_Ie rfl rfl
  have c5 : (sw_uI (sw_uR (sw_uI σ1 4 1 0) 32 2 (some 4)) 32 3 3).1 2 5 = nI 0 ∧ (sw_uI (sw_uR (sw_uI σ1 4 1 0) 32 2 (some 4)) 32 3 3).1 2 6 = -1 := ⟨by rw [m2.r (by decide)]; exact p4, by rw [m2.r (by decide)]; exact p5⟩
  have m02 : pz_sm [2, 4, 5, 32] σ (sw_uI (sw_uR (sw_uI σ1 4 1 0) 32 2 (some 4)) 32 3 3) := (p3.mono (by decide)).trans (m2.mono (by decide))
  have e2 : (sw_uI σ1 4 1 0).1 2 2 = nI (tk_k t N 0) := by rw [pz_Io (by decide)]; exact p2.2.1
  have eF : F_X3_readQuestion σ 1 (nI N) 4 = if nI (tk_k t N 0) < 281 then S_X3_readQuestion_49 (sw_uI (sw_uR (sw_uI σ1 4 1 0) 32 2 (some 4)) 32 3 3) else S_X3_readQuestion_41 (sw_uI (sw_uR (sw_uI σ1 4 1 0) 32 2 (some 4)) 32 3 3) (nI (tk_k t N 0)) := by
    unfold F_X3_readQuestion
    rw [p1]
    dsimp only [Option.bind_some]
    rw [if_pos hc.sh.1, e2]
  generalize hgen : sw_uI (sw_uR (sw_uI σ1 4 1 0) 32 2 (some 4)) 32 3 3 = σ2 at a2 c1 c2 c3 c5 m02 eF
  have er : ∃ σ', S_X3_readQuestion_49 σ2 = some (-1, σ') ∧ pz_sm [2, 4, 5, 32] σ σ' ∧ σ'.1 2 5 = nI 1 ∧ σ'.1 2 6 = nI (tk_s t N 0) := by
    obtain ⟨σ', k1, k2⟩ := px_fail (σ := σ2) (kd := 1) (pl := tk_s t N 0)
    refine ⟨σ', ?_, m02.trans (k2.1.mono (by decide)), k2.2.1, k2.2.2.1⟩
    unfold S_X3_readQuestion_49
    rw [a2.2.2.1, show F_X6_fail σ2 1 (nI (tk_s t N 0)) = _ from k1]
    rfl
  rw [eF]
  unfold pq_rd
  by_cases d1 : tk_k t N 0 < 281
  · rw [if_neg (by omega), if_pos (show nI (tk_k t N 0) < 281 from nI_lt (b := 281) d1 (by omega))]
    exact ⟨fun q hq => (by cases hq), fun e he => (by rw [← Except.error.inj he]; exact er)⟩
  · rw [if_neg (show ¬ nI (tk_k t N 0) < 281 from nI_nlt (a := tk_k t N 0) (b := 281) (by omega) (by omega))]
    unfold S_X3_readQuestion_41
    by_cases d2 : tk_k t N 0 ≤ 286
    · rw [if_pos (show 281 ≤ tk_k t N 0 ∧ tk_k t N 0 ≤ 286 from ⟨by omega, d2⟩), if_pos (show nI (tk_k t N 0) ≤ 286 from nI_le (b := 286) d2 (by omega))]
      obtain ⟨σ3, q1, q2, q3⟩ := px_adv a2.1 ht hN (tk_e_sp t (show 0 ≤ N by omega)).2.1 a2.2.2.2
      rw [q1]
      dsimp only [Option.bind_some]
      have hgt := tk_e_gt (t := t) (show 0 ≤ N by omega) (show tk_k t N 0 ≠ 301 by omega)
      have hle := (tk_e_sp t (show 0 ≤ N by omega)).2.1
      have eR : (if 283 < nI (tk_k t N 0) then (R_pg sw_depth 3 σ3 0).bind fun q2 => S_X3_readQuestion_95 q2.2 (nI (tk_k t N 0)) q2.1 else (R_pg sw_depth 0 σ3 0).bind fun q3 => S_X3_readQuestion_95 q3.2 (nI (tk_k t N 0)) q3.1) = (R_pg sw_depth (pq_g (tk_k t N 0)) σ3 (nI 0)).bind fun q2 => S_X3_readQuestion_95 q2.2 (nI (tk_k t N 0)) q2.1 := by
        unfold pq_g
        by_cases d3 : 283 < tk_k t N 0
        · rw [if_pos d3, if_pos (show 283 < nI (tk_k t N 0) from nI_lt (a := 283) d3 (by omega))]
          rfl
        · rw [if_neg d3, if_neg (show ¬ 283 < nI (tk_k t N 0) from nI_nlt (a := 283) (b := tk_k t N 0) (by omega) (by omega))]
          rfl
      rw [eR]
      have hpg : pq_g (tk_k t N 0) = 3 ∨ pq_g (tk_k t N 0) = 0 := by
        unfold pq_g
        split
        · exact Or.inl rfl
        · exact Or.inr rfl
      have hP := px_parse (co := 4) (use := 3) hc ht hN (by omega) sw_depth (pq_g (tk_k t N 0)) 0 (tk_e t N 0) (by unfold pp_nd sw_depth; omega) (by omega) (by omega) hle σ3 0 q2 (by rw [q3.1.r (by decide)]; exact c1) (by rw [q3.1.rR (by decide)]; exact c2) (by rw [q3.1.r (by decide)]; exact c3) (by omega)
      (try dsimp only at hP)
      have m03 : pz_sm [2, 4, 5, 32] σ σ3 := m02.trans (q3.1.mono (by decide))
      cases hr : pp t N 3 sw_depth (pq_g (tk_k t N 0)) 0 (tk_e t N 0) with
      | error e0 =>
        dsimp only
        refine ⟨fun q hq => (by cases hq), fun e he => ?_⟩
        obtain ⟨σ4, r1, r2, r3, r4⟩ := hP.2 e0 hr
        rw [← Except.error.inj he, r1]
        refine ⟨σ4, rfl, m03.trans (r2.1.mono (by decide)), r3, r4⟩
      | ok q0 =>
        dsimp only
        obtain ⟨σ4, r1, r2, r3, r4, r5, r6, r7, r8⟩ := hP.1 q0 hr
        rw [r1]
        dsimp only [Option.bind_some]
        unfold S_X3_readQuestion_95
        rw [if_neg pz_10]
        have m04 : pz_sm [2, 4, 5, 32] σ σ4 := m03.trans (r3.1.mono (by decide))
        obtain ⟨σ5, s1, s2⟩ := px_expect (kd := 301) r2 ht hN r7 (by omega)
        by_cases d4 : tk_k t N q0.2 = 301
        · obtain ⟨u1, u2, u3⟩ := s1 d4
          rw [if_pos d4]
          refine ⟨fun q hq => ?_, fun e he => (by cases he)⟩
          rw [← Except.ok.inj hq]
          refine ⟨σ5, ?_, m04.trans (u3.1.mono (by decide)), ?_, ?_, ?_, by (try dsimp only); omega, fun i hi => ?_⟩
          · rw [show F_X6_expect σ4 301 = _ from u1]
            dsimp only [Option.bind_some]
            rw [if_neg pz_10]
            rfl
          · rw [u3.2.2.1, r4.1, q3.2.2.1]; exact c5.1
          · rw [u3.2.2.2.1, r4.2, q3.2.2.2.1]; exact c5.2
          · rw [u3.1.r (by decide), r5.1, Nat.zero_add]
          · have := r5.2.1 i hi
            rw [Nat.zero_add] at this
            rw [u3.1.r (by decide)]
            exact this
        · obtain ⟨u1, u2⟩ := s2 d4
          rw [if_neg d4]
          refine ⟨fun q hq => (by cases hq), fun e he => ?_⟩
          rw [← Except.error.inj he]
          refine ⟨σ5, ?_, m04.trans (u2.1.mono (by decide)), u2.2.1, u2.2.2.1⟩
          rw [show F_X6_expect σ4 301 = _ from u1]
          dsimp only [Option.bind_some]
          rw [if_pos rfl]
          rfl
    · rw [if_neg (by omega), if_neg (show ¬ nI (tk_k t N 0) ≤ 286 from nI_ge (a := 286) (b := tk_k t N 0) (by omega) (by omega))]
      exact ⟨fun q hq => (by cases hq), fun e he => (by rw [← Except.error.inj he]; exact er)⟩

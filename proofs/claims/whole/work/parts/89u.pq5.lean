/-! The reference: what a part begins with. -/
theorem pm_pTbad {τ : sw_St} {g : Nat} (h5 : ¬ τ.1 0 5 = 0) : L_X11_qPartTold_2 (g + 1) τ 1 = some ((), τ) := by
  show S_X11_qPartTold_2 _ τ 1 = _
  unfold S_X11_qPartTold_2 S_X11_qPartTold_186
  rw [if_neg pz_10, if_neg h5, if_neg h5]
theorem pm_badN {τ : sw_St} {kd pl : Nat} (h : pm_bad τ kd pl) (hk : 0 < kd ∧ kd < 100) : ¬ τ.1 0 5 = 0 := by rw [h.1]; exact nI_ne0 hk.1 (by omega)
/-- a fault in the first steps of a part ends the sum -/
theorem pm_bEnd {τ τ1 : sw_St} {x : Int32} {g f kd pl : Nat} (e : L_X11_qPartTold_2 g τ 1 = some ((), τ1)) (hb : pm_bad τ1 kd pl) (hc : ∃ n, n ≤ 1650 ∧ τ1.1 0 95 = nI n) (hk : 0 < kd ∧ kd < 100) (m : pm_qf τ τ1) : ∃ τ', pm_qB g (f + 1) x τ = some ((), τ') ∧ pm_bd τ' kd pl ∧ pm_qf τ τ' := by
  obtain ⟨τ2, u1, u2, u3⟩ := pm_qstop (x := x) (f := f) hb hk
  obtain ⟨n, hn1, hn2⟩ := hc
  refine ⟨τ2, ?_, ⟨u2, n, hn1, by rw [u3.2.1 95 (by decide)]; exact hn2⟩, m.trans (u3.mono (by decide) (by decide))⟩
  unfold pm_qB
  rw [e]
  dsimp only [Option.bind_some]
  rw [if_neg (pm_badN hb hk)]
  exact u1
theorem pm_opensOk {τ : sw_St} {W C : List Nat} {d base o : Nat} {x : Int32} (h : pm_q τ W C d base) (h5 : τ.1 0 5 = 0) (hd : d < 6) (ho : o < 1000) (hl : W.length + C.length < 1650) : ∃ τ', F_X11_qOpens τ (nI o) x = some ((), τ') ∧ pm_q τ' (o :: W) C (d + 1) base ∧ pm_sm [72] [97, 98] τ τ' := by
  have m1 : pm_sm [] [98] τ (sw_uI τ 0 98 (nI (d + 1))) := (pm_sm.refl _ _ τ).K (by decide) _
  obtain ⟨a1, a2, a3, a4, a5, a6, a7, a8, a9, a10⟩ := h
  obtain ⟨p1, p2⟩ := pm_push (τ := sw_uI τ 0 98 (nI (d + 1))) (W := W) (C := C) (d := d + 1) (base := base) (o := o) ⟨pm_wt_cong (fun k _ => m1.r (by decide) (by decide) k) a1, fun i hi => by rw [m1.r (by decide) (by decide)]; exact a2 i hi, by rw [m1.2.1 97 (by decide)]; exact a3, by rw [m1.2.1 95 (by decide)]; exact a4, pz_Ie rfl rfl, by rw [m1.2.1 99 (by decide)]; exact a6, a7, a8, by omega, a10⟩ hl ho
  refine ⟨_, ?_, p1, (m1.mono (by decide) (by decide)).trans (p2.mono (by decide) (by decide))⟩
  unfold F_X11_qOpens
  rw [if_pos h5, a5, if_neg (show ¬ nI d = 6 from fun y => by have := (nI_eq (b := 6) (by omega) (by omega)).mp y; omega), a3, if_pos (pz_inb (by omega) (by omega)), nI_clamp (by omega), nI_1, nI_1]
theorem pm_opensNo {τ : sw_St} {W C : List Nat} {d base o pl : Nat} (h : pm_q τ W C d base) (h5 : τ.1 0 5 = 0) (hd : d = 6) : ∃ τ', F_X11_qOpens τ (nI o) (nI pl) = some ((), τ') ∧ pm_bad τ' 4 pl ∧ pm_sm [] [5, 6] τ τ' := by
  obtain ⟨τ', p1, p2, p3⟩ := pm_failN (τ := τ) (kd := 4) (pl := pl) h5
  refine ⟨τ', ?_, p2, p3⟩
  unfold F_X11_qOpens
  rw [if_pos h5, h.2.2.2.2.1, if_pos (show nI d = 6 from by rw [hd]; rfl), show F_X11_fail τ 4 (nI pl) = _ from p1]
  rfl
/-- the first look at a part -/
theorem pm_b1 {τ : sw_St} {t : Nat → Nat} {N use b d base : Nat} {W C : List Nat} (hq : pm_qs τ t N use b W C d base) (ht : ∀ i, t i < 256) (hN : N ≤ 1600) (hb : b ≤ N) (hu : use ≤ 3) : ∃ τ1 τ2, F_X11_look τ = some (tk_c t N b, τ1) ∧ F_X11_qWordOf τ1 10 12 = some (oI (q_of (tk_k t N b) use), τ2) ∧ pm_pa τ2 t N b ∧ pm_sm [] [2] τ τ2 ∧ pm_qs τ2 t N use b W C d base := by
  obtain ⟨τ1, p1, p2, p3⟩ := pm_look hq.1 ht hN hb
  obtain ⟨τ2, q1, q2, q3⟩ := pm_wOf (lo := 10) (hi := 12) (p2.ps hb) ht hN hb (by rw [p3.2.1 48 (by decide)]; exact hq.2.2.1) hu (by omega) (by omega)
  rw [(q_wo_sp hu).2] at q1
  exact ⟨τ1, τ2, p1, q1, q2, p3.trans q3, hq.lx (p3.trans q3) (by decide) (q2.ps hb) (Nat.le_refl _)⟩
theorem pm_bRound {τ : sw_St} {t : Nat → Nat} {N use b g f d base : Nat} {x : Int32} {W C : List Nat} (hq : pm_qs τ t N use b W C d base) (ht : ∀ i, t i < 256) (hN : N ≤ 1600) (hb : b ≤ N) (hu : use ≤ 3) (hd6 : d ≤ 6) (hk : tk_k t N b = 40) : (d < 6 → ∃ τ', pm_qB (g + 1) f x τ = pm_qB g f x τ' ∧ pm_qs τ' t N use (tk_e t N b) (20 :: W) C (d + 1) base ∧ pm_qf τ τ') ∧ (6 ≤ d → ∃ τ', pm_qB (g + 2) (f + 1) x τ = some ((), τ') ∧ pm_bd τ' 4 (tk_s t N b) ∧ pm_qf τ τ') := by
  have s40 := tk_sgns.1
  have hgt := tk_e_gt hb (show tk_k t N b ≠ 301 by omega)
  have hl := hq.2.2.2
  obtain ⟨τ1, τ2, p1, p2, p3, p4, p5⟩ := pm_b1 hq ht hN hb hu
  have eL : ∀ g, L_X11_qPartTold_2 (g + 1) τ 1 = (F_X11_qOpens τ2 20 (nI (tk_s t N b))).bind fun q7 => L_X11_qPartTold_2 g (sw_uI q7.2 0 2 ((q7.2.1 0 2) + 1)) 1 := fun g => by
    show S_X11_qPartTold_2 _ τ 1 = _
    unfold S_X11_qPartTold_2 S_X11_qPartTold_183
    rw [if_neg pz_10, if_pos hq.1.2.2.1, p1]
    dsimp only [Option.bind_some]
    rw [p2]
    dsimp only [Option.bind_some]
    rw [if_pos (show tk_c t N b = 40 from (pm_cIs ht s40).mpr hk), p3.2.1]
  constructor
  · intro hd
    obtain ⟨τ3, q1, q2, q3⟩ := pm_opensOk (o := 20) (x := nI (tk_s t N b)) p5.2.1 p3.2.2.1 hd (by omega) (by omega)
    have m4 : pm_sm [] [2] τ3 (sw_uI τ3 0 2 (nI (tk_s t N b + 1))) := (pm_sm.refl _ _ τ3).K (by decide) _
    have m34 : pm_sm [71, 72] [2, 95, 97, 98] τ2 (sw_uI τ3 0 2 (nI (tk_s t N b + 1))) := (q3.mono (by decide) (by decide)).trans (m4.mono (by decide) (by decide))
    refine ⟨_, ?_, ⟨pm_sgOn p3 ht hb s40 hk m34 (pz_Ie rfl rfl), q2.mv m4 (by decide), by rw [m34.2.1 48 (by decide)]; exact p5.2.2.1, by simp; omega⟩, (p4.mono (by decide) (by decide)).trans (m34.mono (by decide) (by decide))⟩
    unfold pm_qB
    rw [eL, show F_X11_qOpens τ2 20 (nI (tk_s t N b)) = _ from q1]
    dsimp only [Option.bind_some]
    rw [show τ3.1 0 2 = nI (tk_s t N b) from by rw [q3.2.1 2 (by decide)]; exact p3.2.1, nI_1]
  · intro hd
    obtain ⟨τ3, q1, q2, q3⟩ := pm_opensNo (o := 20) (pl := tk_s t N b) p5.2.1 p3.2.2.1 (by omega)
    have m4 : pm_sm [] [2] τ3 (sw_uI τ3 0 2 (τ3.1 0 2 + 1)) := (pm_sm.refl _ _ τ3).K (by decide) _
    have b4 : pm_bad (sw_uI τ3 0 2 (τ3.1 0 2 + 1)) 4 (tk_s t N b) := ⟨by rw [pz_Ik (by decide)]; exact q2.1, by rw [pz_Ik (by decide)]; exact q2.2⟩
    refine pm_bEnd ?_ b4 (by
      obtain ⟨n, hn1, hn2⟩ := pm_c95 p5.2.1 q3 (by decide)
      exact ⟨n, hn1, by rw [pz_Ik (by decide)]; exact hn2⟩) (by omega) (((p4.mono (by decide) (by decide)).trans (q3.mono (by decide) (by decide))).trans (m4.mono (by decide) (by decide)))
    rw [eL, show F_X11_qOpens τ2 20 (nI (tk_s t N b)) = _ from q1]
    exact pm_pTbad (pm_badN b4 (by omega))
/-- least and greatest -/
theorem pm_bMM {τ : sw_St} {t : Nat → Nat} {N use b g f d base : Nat} {x : Int32} {W C : List Nat} (hq : pm_qs τ t N use b W C d base) (ht : ∀ i, t i < 256) (hN : N ≤ 1600) (hb : b ≤ N) (hu : use ≤ 3) (hd6 : d ≤ 6) (hk : tk_k t N b = 279 ∨ tk_k t N b = 280) : (tk_k t N (tk_e t N b) = 40 → d < 6 → ∃ τ', pm_qB (g + 1) f x τ = pm_qB g f x τ' ∧ pm_qs τ' t N use (tk_e t N (tk_e t N b)) ((if tk_k t N b = 279 then 21 else 22) :: W) C (d + 1) base ∧ pm_qf τ τ') ∧ (tk_k t N (tk_e t N b) = 40 → 6 ≤ d → ∃ τ', pm_qB (g + 2) (f + 1) x τ = some ((), τ') ∧ pm_bd τ' 4 (tk_s t N (tk_e t N b)) ∧ pm_qf τ τ') ∧ (tk_k t N (tk_e t N b) ≠ 40 → ∃ τ', pm_qB (g + 2) (f + 1) x τ = some ((), τ') ∧ pm_bd τ' 1 (tk_s t N (tk_e t N b)) ∧ pm_qf τ τ') := by
  have s40 := tk_sgns.1
  have hgt := tk_e_gt hb (show tk_k t N b ≠ 301 by omega)
  have hes := tk_e_sp t hb
  have hb1 : tk_e t N b ≤ N := hes.2.1
  have hl := hq.2.2.2
  obtain ⟨τ1, τ2, p1, p2, p3, p4, p5⟩ := pm_b1 hq ht hN hb hu
  -- the word is taken
  have toS : ∃ τ3, (∀ g, L_X11_qPartTold_2 (g + 1) τ 1 = S_X11_qPartTold_101 (fun σ x1 => L_X11_qPartTold_2 g σ x1) τ3 1 (g_ok1 (decide (tk_k t N b = 279)))) ∧ pm_ps τ3 t N (tk_e t N b) ∧ pm_sm [] [2, 4] τ τ3 := by
    obtain ⟨τ3, q1, q2, q3⟩ := pm_isHere (x := (57, 279)) (p3.ps hb) ht hN hb (by decide)
    have head : ∀ g, L_X11_qPartTold_2 (g + 1) τ 1 = if g_ok1 (decide (tk_k t N b = 279)) = 0 then ((F_X11_isHere τ3 58).bind fun q4 => if q4.1 = 0 then (if oI (q_of (tk_k t N b) use) = (-1) then (S_X11_qPartTold_183 (fun σ x1 => L_X11_qPartTold_2 g σ x1) q4.2 0) else ((F_X11_qOpens q4.2 ((60 + oI (q_of (tk_k t N b) use)) - 10) (q4.2.1 0 2)).bind fun q5 => (F_X11_qAsksWord q5.2 (oI (q_of (tk_k t N b) use))).bind fun q6 => S_X11_qPartTold_183 (fun σ x1 => L_X11_qPartTold_2 g σ x1) q6.2 1)) else (S_X11_qPartTold_78 (fun σ x1 => L_X11_qPartTold_2 g σ x1) q4.2 1)) else (S_X11_qPartTold_78 (fun σ x1 => L_X11_qPartTold_2 g σ x1) τ3 1) := fun g => by
      show S_X11_qPartTold_2 _ τ 1 = _
      unfold S_X11_qPartTold_2
      rw [if_neg pz_10, if_pos hq.1.2.2.1, p1]
      dsimp only [Option.bind_some]
      rw [p2]
      dsimp only [Option.bind_some]
      rw [if_neg (show ¬ tk_c t N b = 40 from fun y => by have := (pm_cIs ht s40).mp y; omega), show F_X11_isHere τ2 57 = _ from q1]
      rfl
    by_cases c : tk_k t N b = 279
    · obtain ⟨τ4, r1, r2, r3⟩ := (pm_takes (x := (57, 279)) (q2.ps hb) ht hN hb (by decide)).1 c
      refine ⟨τ4, fun g => ?_, r2, ((p4.trans q3).mono (by decide) (by decide)).trans r3⟩
      rw [head, decide_eq_true c, if_neg (show ¬ g_ok1 true = 0 from pz_10)]
      unfold S_X11_qPartTold_78
      rw [show F_X11_takes τ3 57 = _ from r1]
      dsimp only [Option.bind_some]
      rw [if_neg pz_10]
      rfl
    · have c2 : tk_k t N b = 280 := by omega
      obtain ⟨τ4, r1, r2, r3⟩ := pm_isHere (x := (58, 280)) (q2.ps hb) ht hN hb (by decide)
      obtain ⟨τ5, u1, u2, u3⟩ := (pm_takes (x := (57, 279)) (r2.ps hb) ht hN hb (by decide)).2 c
      obtain ⟨τ6, v1, v2, v3⟩ := (pm_asks (x := (58, 280)) (u2.ps hb) ht hN hb (by decide)).1 c2
      refine ⟨τ6, fun g => ?_, v2, ((((p4.trans q3).trans r3).trans u3).mono (by decide) (by decide)).trans v3⟩
      rw [head, decide_eq_false c, if_pos (show g_ok1 false = 0 from rfl), show F_X11_isHere τ3 58 = _ from r1, decide_eq_true c2]
      dsimp only [Option.bind_some]
      rw [if_neg (show ¬ g_ok1 true = 0 from pz_10)]
      unfold S_X11_qPartTold_78
      rw [show F_X11_takes τ4 57 = _ from u1]
      dsimp only [Option.bind_some]
      rw [if_pos rfl, show F_X11_asks τ5 58 = _ from v1]
      rfl
  obtain ⟨τ3, q1, q2, q3⟩ := toS
  have hq3 := hq.lx q3 (by decide) q2 (by omega)
  obtain ⟨τ4, r1, r2, r3⟩ := pm_look q2 ht hN hb1
  have hq4 := hq3.lx r3 (by decide) (r2.ps hb1) (Nat.le_refl _)
  have m4 := q3.trans (r3.mono (by decide) (by decide))
  have e101 : ∀ g, S_X11_qPartTold_101 (fun σ x1 => L_X11_qPartTold_2 g σ x1) τ3 1 (g_ok1 (decide (tk_k t N b = 279))) = if tk_k t N (tk_e t N b) = 40 then S_X11_qPartTold_139 (fun σ x1 => L_X11_qPartTold_2 g σ x1) τ4 1 (nI (tk_s t N (tk_e t N b))) (nI (if tk_k t N b = 279 then 21 else 22)) else S_X11_qPartTold_144 (fun σ x1 => L_X11_qPartTold_2 g σ x1) τ4 1 := fun g => by
    unfold S_X11_qPartTold_101 S_X11_qPartTold_118
    rw [r1]
    dsimp only [Option.bind_some]
    by_cases c : tk_k t N (tk_e t N b) = 40
    · rw [if_pos (show tk_c t N (tk_e t N b) = 40 from (pm_cIs ht s40).mpr c), if_pos c, r2.2.1, if_neg (pz_nm1 (by have := tk_s_sp t hb1; omega))]
      by_cases c2 : tk_k t N b = 279
      · rw [decide_eq_true c2, if_neg (show ¬ g_ok1 true = 0 from pz_10), if_pos c2]
        rfl
      · rw [decide_eq_false c2, if_pos (show g_ok1 false = 0 from rfl), if_neg c2]
        rfl
    · rw [if_neg (show ¬ tk_c t N (tk_e t N b) = 40 from fun y => c ((pm_cIs ht s40).mp y)), if_neg c, if_pos rfl]
  refine ⟨fun c hd => ?_, fun c hd => ?_, fun c => ?_⟩
  · have hgt2 := tk_e_gt hb1 (show tk_k t N (tk_e t N b) ≠ 301 by omega)
    obtain ⟨τ5, u1, u2, u3⟩ := pm_opensOk (o := if tk_k t N b = 279 then 21 else 22) (x := nI (tk_s t N (tk_e t N b))) hq4.2.1 r2.2.2.1 hd (by split <;> omega) (by omega)
    have ps5 : pm_ps τ5 t N (tk_e t N b) := (r2.ps hb1).mv u3 (by decide) (by decide)
    obtain ⟨τ6, v1, v2, v3⟩ := (pm_asksSg ps5 ht hN hb1 s40).1 c
    refine ⟨τ6, ?_, ⟨v2, u2.mv v3 (by decide), by rw [v3.2.1 48 (by decide), u3.2.1 48 (by decide)]; exact hq4.2.2.1, by simp; omega⟩, ((m4.mono (by decide) (by decide)).trans (u3.mono (by decide) (by decide))).trans (v3.mono (by decide) (by decide))⟩
    unfold pm_qB
    rw [q1, e101, if_pos c]
    unfold S_X11_qPartTold_139 S_X11_qPartTold_144 S_X11_qPartTold_183
    rw [u1]
    dsimp only [Option.bind_some]
    rw [show F_X11_asksSign τ5 40 = _ from v1]
    rfl
  · obtain ⟨τ5, u1, u2, u3⟩ := pm_opensNo (o := if tk_k t N b = 279 then 21 else 22) (pl := tk_s t N (tk_e t N b)) hq4.2.1 r2.2.2.1 (by omega)
    refine pm_bEnd ?_ u2 (pm_c95 hq4.2.1 u3 (by decide)) (by omega) ((m4.mono (by decide) (by decide)).trans (u3.mono (by decide) (by decide)))
    rw [q1, e101, if_pos c]
    unfold S_X11_qPartTold_139 S_X11_qPartTold_144 S_X11_qPartTold_183
    rw [u1]
    dsimp only [Option.bind_some]
    unfold F_X11_asksSign S_X11_asksSign_24
    rw [if_neg (pm_badN u2 (by omega))]
    dsimp only [Option.bind_some]
    exact pm_pTbad (pm_badN u2 (by omega))
  · obtain ⟨τ5, u1, u2, u3⟩ := (pm_asksSg (r2.ps hb1) ht hN hb1 s40).2 c
    refine pm_bEnd ?_ u2 (pm_c95 hq4.2.1 u3 (by decide)) (by omega) ((m4.mono (by decide) (by decide)).trans (u3.mono (by decide) (by decide)))
    rw [q1, e101, if_neg c]
    unfold S_X11_qPartTold_144 S_X11_qPartTold_183
    rw [show F_X11_asksSign τ4 40 = _ from u1]
    dsimp only [Option.bind_some]
    exact pm_pTbad (pm_badN u2 (by omega))
/-- no bracket, neither least nor greatest -/
theorem pm_b2 {τ : sw_St} {t : Nat → Nat} {N use b d base : Nat} {W C : List Nat} (hq : pm_qs τ t N use b W C d base) (ht : ∀ i, t i < 256) (hN : N ≤ 1600) (hb : b ≤ N) (hu : use ≤ 3) (hk : tk_k t N b ≠ 40 ∧ tk_k t N b ≠ 279 ∧ tk_k t N b ≠ 280) : ∃ τ1, (∀ g, L_X11_qPartTold_2 (g + 1) τ 1 = if oI (q_of (tk_k t N b) use) = (-1) then L_X11_qPartTold_2 g τ1 0 else ((F_X11_qOpens τ1 ((60 + oI (q_of (tk_k t N b) use)) - 10) (nI (tk_s t N b))).bind fun q5 => (F_X11_qAsksWord q5.2 (oI (q_of (tk_k t N b) use))).bind fun q6 => L_X11_qPartTold_2 g q6.2 1)) ∧ pm_pa τ1 t N b ∧ pm_sm [] [2] τ τ1 ∧ pm_qs τ1 t N use b W C d base := by
  have s40 := tk_sgns.1
  obtain ⟨τ1, τ2, p1, p2, p3, p4, p5⟩ := pm_b1 hq ht hN hb hu
  obtain ⟨τ3, q1, q2, q3⟩ := pm_isHere (x := (57, 279)) (p3.ps hb) ht hN hb (by decide)
  obtain ⟨τ4, r1, r2, r3⟩ := pm_isHere (x := (58, 280)) (q2.ps hb) ht hN hb (by decide)
  have m4 := (p4.trans q3).trans r3
  refine ⟨τ4, fun g => ?_, r2, m4, hq.lx m4 (by decide) (r2.ps hb) (Nat.le_refl _)⟩
  show S_X11_qPartTold_2 _ τ 1 = _
  unfold S_X11_qPartTold_2 S_X11_qPartTold_183
  rw [if_neg pz_10, if_pos hq.1.2.2.1, p1]
  dsimp only [Option.bind_some]
  rw [p2]
  dsimp only [Option.bind_some]
  rw [if_neg (show ¬ tk_c t N b = 40 from fun y => hk.1 ((pm_cIs ht s40).mp y)), show F_X11_isHere τ2 57 = _ from q1, decide_eq_false hk.2.1]
  dsimp only [Option.bind_some]
  rw [if_pos (show g_ok1 false = 0 from rfl), show F_X11_isHere τ3 58 = _ from r1, decide_eq_false hk.2.2]
  dsimp only [Option.bind_some]
  rw [if_pos (show g_ok1 false = 0 from rfl), r2.2.1]
theorem pm_bOf {τ : sw_St} {t : Nat → Nat} {N b g f d base : Nat} {x : Int32} {W C : List Nat} (hq : pm_qs τ t N 3 b W C d base) (ht : ∀ i, t i < 256) (hN : N ≤ 1600) (hb : b ≤ N) (hd6 : d ≤ 6) (hk : tk_k t N b = 271 ∨ tk_k t N b = 265) : (d < 6 → ∃ τ', pm_qB (g + 1) f x τ = pm_qB g f x τ' ∧ pm_qs τ' t N 3 (tk_e t N b) ((if tk_k t N b = 271 then 60 else 61) :: W) C (d + 1) base ∧ pm_qf τ τ') ∧ (6 ≤ d → ∃ τ', pm_qB (g + 2) (f + 1) x τ = some ((), τ') ∧ pm_bd τ' 4 (tk_s t N b) ∧ pm_qf τ τ') := by
  have hgt := tk_e_gt hb (show tk_k t N b ≠ 301 by omega)
  have hl := hq.2.2.2
  obtain ⟨τ1, p1, p2, p3, p4⟩ := pm_b2 hq ht hN hb (by omega) (by omega)
  have eo : ∃ k, q_of (tk_k t N b) 3 = some k ∧ k < 12 ∧ 10 ≤ k ∧ (59 + k, tk_k t N b) ∈ pm_ck ∧ 60 + k - 10 = (if tk_k t N b = 271 then 60 else 61) := by
    unfold q_of
    rw [if_pos rfl]
    rcases hk with c | c
    · exact ⟨10, by rw [if_pos c], by omega, by omega, by rw [c]; decide, by rw [if_pos c]⟩
    · exact ⟨11, by rw [if_neg (by omega), if_pos c], by omega, by omega, by rw [c]; decide, by rw [if_neg (by omega)]⟩
  obtain ⟨k, k1, k2, k3, k4, k5⟩ := eo
  have eN : (60 : Int32) + nI k - 10 = nI (if tk_k t N b = 271 then 60 else 61) := by
    rw [show (60 : Int32) = nI 60 from rfl, nI_add, show (10 : Int32) = nI 10 from rfl, pk_sub (by omega), k5]
  constructor
  · intro hd
    obtain ⟨τ2, q1, q2, q3⟩ := pm_opensOk (o := if tk_k t N b = 271 then 60 else 61) (x := nI (tk_s t N b)) p4.2.1 p2.2.2.1 hd (by split <;> omega) (by omega)
    have ps2 : pm_ps τ2 t N b := (p2.ps hb).mv q3 (by decide) (by decide)
    obtain ⟨τ3, r1, r2, r3⟩ := (pm_asks (x := (59 + k, tk_k t N b)) ps2 ht hN hb k4).1 rfl
    refine ⟨τ3, ?_, ⟨r2, q2.mv r3 (by decide), by rw [r3.2.1 48 (by decide), q3.2.1 48 (by decide)]; exact p4.2.2.1, by simp; omega⟩, ((p3.mono (by decide) (by decide)).trans (q3.mono (by decide) (by decide))).trans (r3.mono (by decide) (by decide))⟩
    unfold pm_qB
    rw [p1, k1, show oI (some k) = nI k from rfl, if_neg (pz_nm1 (by omega)), eN, q1]
    dsimp only [Option.bind_some]
    rw [pm_qAsk k2, show F_X11_asks τ2 (59 + k) = _ from r1]
    rfl
  · intro hd
    obtain ⟨τ2, q1, q2, q3⟩ := pm_opensNo (o := if tk_k t N b = 271 then 60 else 61) (pl := tk_s t N b) p4.2.1 p2.2.2.1 (by omega)
    refine pm_bEnd ?_ q2 (pm_c95 p4.2.1 q3 (by decide)) (by omega) ((p3.mono (by decide) (by decide)).trans (q3.mono (by decide) (by decide)))
    rw [p1, k1, show oI (some k) = nI k from rfl, if_neg (pz_nm1 (by omega)), eN, q1]
    dsimp only [Option.bind_some]
    rw [pm_qAsk k2]
    unfold F_X11_asks S_X11_asks_24
    rw [if_neg (pm_badN q2 (by omega))]
    dsimp only [Option.bind_some]
    exact pm_pTbad (pm_badN q2 (by omega))
/-- ending a part goes well -/
theorem pm_endsW {base : Nat} : ∀ (W C : List Nat) (d fuel : Nat) (τ : sw_St), pm_wt τ W → τ.1 0 97 = nI W.length → τ.1 0 95 = nI C.length → τ.1 0 99 = nI base → W.length + C.length ≤ 1650 → (∀ o ∈ W, o < 1000) → base ≤ W.length → τ.1 0 5 = 0 → W.length < fuel → ∃ τ', L_X11_qEndsPart_0 fuel τ = some ((), τ') ∧ τ'.1 0 5 = 0
  | [], C, d, fuel + 1, τ, h1, h2, h3, h4, h5, h6, h7, h8, hf => by
    refine ⟨τ, ?_, h8⟩
    show S_X11_qEndsPart_0 _ τ = _
    unfold S_X11_qEndsPart_0 S_X11_qEndsPart_51
    rw [if_pos h8, h2, h4, if_pos (nI_le (by simp) (by omega))]
  | o :: W, C, d, fuel + 1, τ, h1, h2, h3, h4, h5, h6, h7, h8, hf => by
    have ho := h6 o (by simp)
    simp only [List.length_cons] at h2 h5 h7 hf
    have e0 : L_X11_qEndsPart_0 (fuel + 1) τ = S_X11_qEndsPart_0 (fun σ => L_X11_qEndsPart_0 fuel σ) τ := rfl
    rw [e0]
    unfold S_X11_qEndsPart_0 S_X11_qEndsPart_51
    rw [if_pos h8, h2, h4]
    by_cases c : W.length + 1 ≤ base
    · rw [if_pos (nI_le c (by omega))]
      exact ⟨τ, rfl, h8⟩
    · rw [if_neg (nI_ge (by omega) (by omega)), show nI (W.length + 1) - 1 = nI W.length from nI_pred _, if_pos (pz_inb (by omega) (by omega)), nI_clamp (by omega), h1.1]
      by_cases c2 : o < 60
      · rw [if_pos (show nI o < 60 from nI_lt (b := 60) c2 (by omega))]
        exact ⟨τ, rfl, h8⟩
      · rw [if_neg (show ¬ nI o < 60 from nI_nlt (b := 60) (by omega) (by omega))]
        generalize hz : τ.1 0 98 - 1 = z98
        have m1 : pm_sm [] [98] τ (sw_uI τ 0 98 z98) := (pm_sm.refl _ _ τ).K (by decide) _
        have m2 : pm_sm [71] [95, 97] (sw_uI τ 0 98 z98) (sw_uI (sw_uI (sw_uI (sw_uI τ 0 98 z98) 0 97 (nI W.length)) 71 C.length (nI o)) 0 95 (nI (C.length + 1))) := (((pm_sm.refl _ _ _).K (by decide) _).I (by decide) (by decide) _ _).K (by decide) _
        have mm : pm_sm [71] [95, 97, 98] τ _ := (m1.mono (by decide) (by decide)).trans (m2.mono (by decide) (by decide))
        have eD : F_X11_qDrops (sw_uI τ 0 98 z98) = some ((), sw_uI (sw_uI (sw_uI (sw_uI τ 0 98 z98) 0 97 (nI W.length)) 71 C.length (nI o)) 0 95 (nI (C.length + 1))) := by
          unfold F_X11_qDrops F_X11_qCode
          rw [m1.2.1 97 (by decide), h2, show nI (W.length + 1) - 1 = nI W.length from nI_pred _, if_pos (pz_inb (by omega) (by omega)), nI_clamp (by omega), m1.r (by decide) (by decide), h1.1, show (sw_uI (sw_uI τ 0 98 z98) 0 97 (nI W.length)).1 0 95 = nI C.length from by rw [pz_Ik (by decide), pz_Ik (by decide)]; exact h3, if_pos (pz_inb (by omega) (by omega)), nI_clamp (by omega), nI_1]
          rfl
        rw [eD]
        dsimp only [Option.bind_some]
        exact pm_endsW W (C ++ [o]) d fuel _ (pm_wt_cong (fun k _ => mm.r (by decide) (by decide) k) h1.2) (by rw [pz_Ik (by decide), pz_Io (by decide), pz_Ie rfl rfl]) (by rw [pz_Ie rfl rfl]; simp) (by rw [mm.2.1 99 (by decide)]; exact h4) (by simp; omega) (fun o2 h => h6 o2 (by simp [h])) (by omega) (by rw [mm.2.1 5 (by decide)]; exact h8) (by omega)
theorem pm_endsAny {τ : sw_St} {W C : List Nat} {d base : Nat} (h : pm_q τ W C d base) (h5 : τ.1 0 5 = 0) (hb0 : base ≤ W.length) : ∃ τ', L_X11_qEndsPart_0 sw_fuel τ = some ((), τ') ∧ τ'.1 0 5 = 0 := by
  obtain ⟨a1, a2, a3, a4, a5, a6, a7, a8, a9, a10⟩ := h
  exact pm_endsW W C d sw_fuel τ a1 a3 a4 a6 a7 a8 hb0 h5 (by have := sw_fuel_ge; omega)
/-- a part without one behind it -/
theorem pm_bLeaf {τ : sw_St} {t : Nat → Nat} {N use b g f d base : Nat} {x : Int32} {W C : List Nat} (hq : pm_qs τ t N use b W C d base) (ht : ∀ i, t i < 256) (hN : N ≤ 1600) (hb : b ≤ N) (hu : use ≤ 3) (hb0 : base ≤ W.length) (hk : tk_k t N b ≠ 40 ∧ tk_k t N b ≠ 279 ∧ tk_k t N b ≠ 280) (hof : q_of (tk_k t N b) use = none) : (∀ v, pp_var (tk_k t N b) use = some v → ∃ τ', pm_qB (g + 2) f x τ = pm_qE sw_fuel sw_fuel f x τ' ∧ pm_qs τ' t N use (tk_e t N b) W (C ++ [40 + v]) d base ∧ pm_qf τ τ') ∧ (pp_var (tk_k t N b) use = none → (∀ r, tk_num t N 0 10000 b = .ok r → ∃ τ', pm_qB (g + 2) f x τ = pm_qE sw_fuel sw_fuel f x τ' ∧ pm_qs τ' t N use r.2 W (C ++ [1000 + r.1]) d base ∧ pm_qf τ τ') ∧ (∀ e, tk_num t N 0 10000 b = .error e → ∃ τ', pm_qB (g + 2) (f + 1) x τ = some ((), τ') ∧ pm_bd τ' e.1 e.2 ∧ pm_qf τ τ')) := by
  have hl := hq.2.2.2
  obtain ⟨τ1, p1, p2, p3, p4⟩ := pm_b2 hq ht hN hb hu hk
  obtain ⟨τ2, q1, q2, q3⟩ := pm_wOf (lo := 0) (hi := 10) (p2.ps hb) ht hN hb p4.2.2.1 hu (by omega) (by omega)
  rw [(q_wo_sp hu).1] at q1
  have m2 := p3.trans q3
  have hq2 := hq.lx m2 (by decide) (q2.ps hb) (Nat.le_refl _)
  have e186 : L_X11_qPartTold_2 (g + 2) τ 1 = if oI (pp_var (tk_k t N b) use) = (-1) then (S_X11_qPartTold_212 τ2 (oI (pp_var (tk_k t N b) use))) else ((F_X11_qAsksWord τ2 (oI (pp_var (tk_k t N b) use))).bind fun q2 => S_X11_qPartTold_212 q2.2 (oI (pp_var (tk_k t N b) use))) := by
    rw [p1 (g + 1), hof, if_pos (show oI none = -1 from rfl)]
    show S_X11_qPartTold_2 _ τ1 0 = _
    unfold S_X11_qPartTold_2 S_X11_qPartTold_186
    rw [if_pos rfl, if_pos p2.2.2.1, show F_X11_qWordOf τ1 0 10 = _ from q1]
    rfl
  -- the code, and what waits for the part
  have fin : ∀ (τ3 : sw_St) (b' o : Nat), pm_qs τ3 t N use b' W C d base → W.length + C.length < b' → b' ≤ N → L_X11_qPartTold_2 (g + 2) τ 1 = S_X11_qPartTold_237 τ3 (nI o) → pm_qf τ τ3 → ∃ τ', pm_qB (g + 2) f x τ = pm_qE sw_fuel sw_fuel f x τ' ∧ pm_qs τ' t N use b' W (C ++ [o]) d base ∧ pm_qf τ τ' := fun τ3 b' o h3 hl3 hb3 e3 f3 => by
    obtain ⟨τ4, u1, u2, u3⟩ := pm_qCode (o := o) h3.2.1 (by omega)
    have hq4 : pm_qs τ4 t N use b' W (C ++ [o]) d base := ⟨h3.1.mv u3 (by decide) (by decide), u2, by rw [u3.2.1 48 (by decide)]; exact h3.2.2.1, by simp; omega⟩
    refine ⟨τ4, ?_, hq4, f3.trans (u3.mono (by decide) (by decide))⟩
    obtain ⟨τ5, w1, w2⟩ := pm_endsAny hq4.2.1 hq4.1.2.2.1 hb0
    unfold pm_qB pm_qE
    rw [e3]
    unfold S_X11_qPartTold_237
    rw [u1]
    dsimp only [Option.bind_some]
    rw [show F_X11_qEndsPart τ4 = L_X11_qEndsPart_0 sw_fuel τ4 from rfl, w1]
    dsimp only [Option.bind_some]
    rw [if_pos w2]
  constructor
  · intro v hv
    have hv10 := pp_var_lt hv
    have hk1 : tk_k t N b ≠ 301 := fun y => by rw [y] at hv; exact pp_var_301 hv
    have hgt := tk_e_gt hb hk1
    obtain ⟨τ3, r1, r2, r3⟩ := (pm_asks (x := (59 + v, tk_k t N b)) (q2.ps hb) ht hN hb (q_ckv hv)).1 rfl
    refine fin τ3 (tk_e t N b) (40 + v) (hq2.lx r3 (by decide) r2 (by omega)) (by omega) (tk_e_sp t hb).2.1 ?_ ((m2.mono (by decide) (by decide)).trans (r3.mono (by decide) (by decide)))
    rw [e186, hv, show oI (some v) = nI v from rfl, if_neg (pz_nm1 (by omega)), pm_qAsk (by omega), show F_X11_asks τ2 (59 + v) = _ from r1]
    dsimp only [Option.bind_some]
    unfold S_X11_qPartTold_212
    rw [if_neg (pz_nm1 (by omega)), show (40 : Int32) + nI v = nI (40 + v) from nI_add 40 v]
  · intro hv
    obtain ⟨τ3, hn⟩ := pm_number (lo := 0) (lim := 10000) (x2 := 9999) (q2.ps hb) ht hN hb (by omega) (by decide)
    constructor
    · intro r hr
      rw [hr] at hn
      (try dsimp only at hn)
      obtain ⟨n1, n2, n3, n4⟩ := hn
      have hk300 : tk_k t N b = 300 := by
        unfold tk_num at hr
        by_cases c : tk_k t N b = 300
        · exact c
        · rw [if_neg c] at hr
          cases hr
      have hr2 : b < r.2 ∧ r.2 ≤ N := by
        have hgt := tk_e_gt hb (show tk_k t N b ≠ 301 by omega)
        have hes := tk_e_sp t hb
        unfold tk_num at hr
        rw [if_pos hk300] at hr
        split at hr
        · split at hr
          · rw [← Except.ok.inj hr]
            exact ⟨hgt.1, hes.2.1⟩
          · cases hr
        · cases hr
      refine fin τ3 r.2 (1000 + r.1) (hq2.lx n3 (by decide) n2 (by omega)) (by omega) hr2.2 ?_ ((m2.mono (by decide) (by decide)).trans (n3.mono (by decide) (by decide)))
      rw [e186, hv, if_pos (show oI none = -1 from rfl)]
      unfold S_X11_qPartTold_212
      rw [if_pos (show oI none = -1 from rfl), show F_X11_number τ2 0 9999 = _ from n1]
      dsimp only [Option.bind_some]
      rw [show (1000 : Int32) + nI r.1 = nI (1000 + r.1) from nI_add 1000 _]
    · intro e he
      rw [he] at hn
      (try dsimp only at hn)
      obtain ⟨⟨v, v1, n1⟩, n2, n3⟩ := hn
      have he0 : 0 < e.1 ∧ e.1 < 100 := by
        unfold tk_num at he
        split at he
        · split at he
          · split at he
            · cases he
            · rw [← Except.error.inj he]; exact ⟨by omega, by omega⟩
          · rw [← Except.error.inj he]; exact ⟨by omega, by omega⟩
        · rw [← Except.error.inj he]; exact ⟨by omega, by omega⟩
      obtain ⟨τ4, u1, u2, u3⟩ := pm_qCode (o := 1000 + v) (hq2.2.1.mv n3 (by decide)) (by omega)
      have b4 : pm_bad τ4 e.1 e.2 := ⟨by rw [u3.2.1 5 (by decide)]; exact n2.1, by rw [u3.2.1 6 (by decide)]; exact n2.2⟩
      refine pm_bEnd ?_ b4 ⟨(C ++ [1000 + v]).length, by simp; omega, u2.2.2.2.1⟩ he0 (((m2.mono (by decide) (by decide)).trans (n3.mono (by decide) (by decide))).trans (u3.mono (by decide) (by decide)))
      rw [e186, hv, if_pos (show oI none = -1 from rfl)]
      unfold S_X11_qPartTold_212
      rw [if_pos (show oI none = -1 from rfl), show F_X11_number τ2 0 9999 = _ from n1]
      dsimp only [Option.bind_some]
      unfold S_X11_qPartTold_237
      rw [show (1000 : Int32) + nI v = nI (1000 + v) from nI_add 1000 _, u1]
      dsimp only [Option.bind_some]
      obtain ⟨ff, hff⟩ : ∃ ff, sw_fuel = ff + 1 := ⟨sw_fuel - 1, by have := sw_fuel_ge; omega⟩
      have e0 : F_X11_qEndsPart τ4 = some ((), τ4) := by
        unfold F_X11_qEndsPart
        rw [hff]
        show S_X11_qEndsPart_0 _ τ4 = _
        unfold S_X11_qEndsPart_0 S_X11_qEndsPart_51
        rw [if_neg (pm_badN b4 he0)]
      rw [e0]
      rfl

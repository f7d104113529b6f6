/-! The reference closes what is open. -/
theorem pm_ps5 {τ τ' : sw_St} {S K : List Nat} (h : τ.1 0 5 = 0) (m : pm_sm S K τ τ') (hK : 5 ∉ K) : τ'.1 0 5 = 0 := by rw [m.2.1 5 hK]; exact h
/-- a bracket closes -/
theorem pm_goClose {τ : sw_St} {t : Nat → Nat} {N use b e h f d base br : Nat} {x : Int32} {V W0 C : List Nat} (hq : pm_qs τ t N use b (V ++ br :: W0) C (d + 1) base) (ht : ∀ i, t i < 256) (hN : N ≤ 1600) (hb : b ≤ N) (hb0 : base ≤ W0.length) (hk : tk_k t N b = 41) (hbr : br = 20 ∨ br = 23 ∨ br = 24) (hV : ∀ o ∈ V, o < 20) : ∃ τ', pm_qE (e + 1) (h + 1) f x τ = pm_qE sw_fuel h f x τ' ∧ pm_qs τ' t N use (tk_e t N b) W0 (C ++ V ++ (if br = 20 then [] else [if br = 23 then 5 else 6])) d base ∧ pm_qf τ τ' := by
  obtain ⟨s40, s41, s42, s43, s44, s45, s47, -⟩ := tk_sgns
  have hgt := tk_e_gt hb (show tk_k t N b ≠ 301 by omega)
  have hl := hq.2.2.2
  have hd10 := hq.2.1.2.2.2.2.2.2.2.2.1
  have hl2 : V.length + W0.length + 1 + C.length ≤ b := by simp at hl; omega
  have hbr2 : 20 ≤ br ∧ br ≤ 24 := by omega
  have e0 : L_X11_qEndsPart_0 (e + 1) τ = some ((), τ) := pm_endsL hq.2.1 (by simp; omega) (by
    cases V with
    | nil => exact Or.inr ⟨br, W0, rfl, by omega⟩
    | cons o V' => exact Or.inr ⟨o, V' ++ br :: W0, rfl, by have := hV o (by simp); omega⟩)
  obtain ⟨τ1, p1, p2, p3⟩ := pm_look hq.1 ht hN hb
  have hq1 := hq.lx p3 (by decide) (p2.ps hb) (Nat.le_refl _)
  have ebr := pm_bracket hq1.2.1 hV hbr2 hb0
  -- at + 1
  have m2 : pm_sm [] [2] τ1 (sw_uI τ1 0 2 (nI (tk_s t N b + 1))) := (pm_sm.refl _ _ τ1).K (by decide) _
  have ps2 : pm_ps (sw_uI τ1 0 2 (nI (tk_s t N b + 1))) t N (tk_e t N b) := pm_sgOn p2 ht hb s41 hk (m2.mono (by decide) (by decide)) (pz_Ie rfl rfl)
  have q2 := hq1.2.1.mv m2 (by decide)
  obtain ⟨τ3, r1, r2, r3⟩ := pm_toBr q2 hV hbr2 hb0
  have h97 : τ3.1 0 97 = nI (W0.length + 1) := r2.2.2.1
  have h98 : τ3.1 0 98 = nI (d + 1) := r2.2.2.2.2.1
  have m4 : pm_sm [] [97, 98] τ3 (sw_uI (sw_uI τ3 0 97 (nI W0.length)) 0 98 (nI d)) := ((pm_sm.refl _ _ τ3).K (by decide) _).K (by decide) _
  have q4 : pm_q (sw_uI (sw_uI τ3 0 97 (nI W0.length)) 0 98 (nI d)) W0 (C ++ V) d base := by
    obtain ⟨a1, a2, a3, a4, a5, a6, a7, a8, a9, a10⟩ := r2
    simp only [List.length_cons] at a7
    exact ⟨pm_wt_cong (fun k _ => m4.r (by decide) (by decide) k) a1.2, fun i hi => by rw [m4.r (by decide) (by decide)]; exact a2 i hi, by rw [pz_Ik (by decide), pz_Ie rfl rfl], by rw [m4.2.1 95 (by decide)]; exact a4, pz_Ie rfl rfl, by rw [m4.2.1 99 (by decide)]; exact a6, by omega, fun o ho => a8 o (by simp [ho]), by omega, a10⟩
  have ps4 : pm_ps (sw_uI (sw_uI τ3 0 97 (nI W0.length)) 0 98 (nI d)) t N (tk_e t N b) := (ps2.mv r3 (by decide) (by decide)).mv m4 (by decide) (by decide)
  have use4 : (sw_uI (sw_uI τ3 0 97 (nI W0.length)) 0 98 (nI d)).1 0 48 = nI use := by rw [m4.2.1 48 (by decide), r3.2.1 48 (by decide), m2.2.1 48 (by decide)]; exact hq1.2.2.1
  have f4 : pm_qf τ (sw_uI (sw_uI τ3 0 97 (nI W0.length)) 0 98 (nI d)) := (((p3.trans m2).mono (by decide) (by decide)).trans (r3.mono (by decide) (by decide))).trans (m4.mono (by decide) (by decide))
  have eS43 : S_X11_qGoesOn_43 (fun σ => L_X11_qGoesOn_0 h σ) τ1 = if br = 20 then S_X11_qGoesOn_115 (fun σ => L_X11_qGoesOn_0 h σ) (sw_uI (sw_uI τ3 0 97 (nI W0.length)) 0 98 (nI d)) else S_X11_qGoesOn_91 (fun σ => L_X11_qGoesOn_0 h σ) (sw_uI (sw_uI τ3 0 97 (nI W0.length)) 0 98 (nI d)) := by
    unfold S_X11_qGoesOn_43
    rw [p2.2.1, nI_1, r1]
    dsimp only [Option.bind_some]
    rw [h97, h98, show nI (W0.length + 1) - 1 = nI W0.length from nI_pred _, show nI (d + 1) - 1 = nI d from nI_pred _, if_pos (pz_inb (by omega) (by omega)), nI_clamp (by omega), r2.1.1]
    by_cases c : br = 20
    · rw [if_pos c, if_pos (show nI br = 20 from by rw [c]; rfl)]
    · rw [if_neg c, if_neg (show ¬ nI br = 20 from fun y => c ((nI_eq (b := 20) (by omega) (by omega)).mp y))]
  have eL : L_X11_qGoesOn_0 (h + 1) τ = S_X11_qGoesOn_43 (fun σ => L_X11_qGoesOn_0 h σ) τ1 := by
    show S_X11_qGoesOn_0 _ τ = _
    unfold S_X11_qGoesOn_0
    rw [if_pos hq.1.2.2.1, p1]
    dsimp only [Option.bind_some]
    rw [if_pos (show tk_c t N b = 41 from (pm_cIs ht s41).mpr hk), ebr]
    dsimp only [Option.bind_some]
    by_cases c : br = 20
    · rw [if_pos (show nI br = 20 from by rw [c]; rfl)]
    · rw [if_neg (show ¬ nI br = 20 from fun y => c ((nI_eq (b := 20) (by omega) (by omega)).mp y)), ebr]
      dsimp only [Option.bind_some]
      by_cases c2 : br = 23
      · rw [if_pos (show nI br = 23 from by rw [c2]; rfl)]
      · rw [if_neg (show ¬ nI br = 23 from fun y => c2 ((nI_eq (b := 23) (by omega) (by omega)).mp y)), ebr]
        dsimp only [Option.bind_some]
        rw [if_pos (show nI br = 24 from by rw [show br = 24 by omega]; rfl)]
  by_cases c : br = 20
  · refine ⟨_, ?_, ⟨ps4, by rw [if_pos c, List.append_nil]; exact q4, use4, by rw [if_pos c]; simp; omega⟩, f4⟩
    unfold pm_qE
    rw [e0]
    dsimp only [Option.bind_some]
    rw [eL, eS43, if_pos c]
    unfold S_X11_qGoesOn_115 F_X11_qEndsPart
    cases L_X11_qEndsPart_0 sw_fuel (sw_uI (sw_uI τ3 0 97 (nI W0.length)) 0 98 (nI d)) <;> rfl
  · obtain ⟨τ5, u1, u2, u3⟩ := pm_qCode (o := if br = 23 then 5 else 6) q4 (by simp; omega)
    refine ⟨τ5, ?_, ⟨ps4.mv u3 (by decide) (by decide), by rw [if_neg c]; exact u2, by rw [u3.2.1 48 (by decide)]; exact use4, by rw [if_neg c]; simp; omega⟩, f4.trans (u3.mono (by decide) (by decide))⟩
    have h72 : (sw_uI (sw_uI τ3 0 97 (nI W0.length)) 0 98 (nI d)).1 72 W0.length = nI br := by rw [m4.r (by decide) (by decide)]; exact r2.1.1
    have eS91 : S_X11_qGoesOn_91 (fun σ => L_X11_qGoesOn_0 h σ) (sw_uI (sw_uI τ3 0 97 (nI W0.length)) 0 98 (nI d)) = S_X11_qGoesOn_115 (fun σ => L_X11_qGoesOn_0 h σ) τ5 := by
      unfold S_X11_qGoesOn_91 S_X11_qGoesOn_112
      rw [q4.2.2.1, if_pos (pz_inb (by omega) (by omega)), nI_clamp (by omega), h72]
      by_cases c2 : br = 23
      · rw [if_pos c2] at u1
        rw [if_pos (show nI br = 23 from by rw [c2]; rfl), show F_X11_qCode _ 5 = _ from u1]
        rfl
      · rw [if_neg c2] at u1
        rw [if_neg (show ¬ nI br = 23 from fun y => c2 ((nI_eq (b := 23) (by omega) (by omega)).mp y)), show F_X11_qCode _ 6 = _ from u1]
        rfl
    unfold pm_qE
    rw [e0]
    dsimp only [Option.bind_some]
    rw [eL, eS43, if_neg c, eS91]
    unfold S_X11_qGoesOn_115 F_X11_qEndsPart
    cases L_X11_qEndsPart_0 sw_fuel τ5 <;> rfl
/-- what has a part behind it -/
theorem pm_goOf {τ : sw_St} {t : Nat → Nat} {N use b e h f d base o : Nat} {x : Int32} {W0 C : List Nat} (hq : pm_qs τ t N use b (o :: W0) C (d + 1) base) (hb0 : base ≤ W0.length) (ho : 60 ≤ o) : ∃ τ', pm_qE (e + 1) h f x τ = pm_qE e h f x τ' ∧ pm_qs τ' t N use b W0 (C ++ [o]) d base ∧ pm_qf τ τ' := by
  have hl := hq.2.2.2
  have ho2 := hq.2.1.2.2.2.2.2.2.2.1 o (by simp)
  obtain ⟨a1, a2, a3, a4, a5, a6, a7, a8, a9, a10⟩ := hq.2.1
  have m1 : pm_sm [] [98] τ (sw_uI τ 0 98 (nI d)) := (pm_sm.refl _ _ τ).K (by decide) _
  obtain ⟨τ2, p1, p2, p3⟩ := pm_qDrops (τ := sw_uI τ 0 98 (nI d)) (W := W0) (C := C) (d := d) (base := base) (o := o) ⟨pm_wt_cong (fun k _ => m1.r (by decide) (by decide) k) a1, fun i hi => by rw [m1.r (by decide) (by decide)]; exact a2 i hi, by rw [m1.2.1 97 (by decide)]; exact a3, by rw [m1.2.1 95 (by decide)]; exact a4, pz_Ie rfl rfl, by rw [m1.2.1 99 (by decide)]; exact a6, a7, a8, by omega, a10⟩
  have mm : pm_sm [71] [95, 97, 98] τ τ2 := (m1.mono (by decide) (by decide)).trans (p3.mono (by decide) (by decide))
  refine ⟨τ2, ?_, ⟨hq.1.mv mm (by decide) (by decide), p2, by rw [mm.2.1 48 (by decide)]; exact hq.2.2.1, by simp at hl ⊢; omega⟩, mm.mono (by decide) (by decide)⟩
  have eL : L_X11_qEndsPart_0 (e + 1) τ = L_X11_qEndsPart_0 e τ2 := by
    simp only [List.length_cons] at a3 a7
    show S_X11_qEndsPart_0 _ τ = _
    unfold S_X11_qEndsPart_0
    rw [if_pos hq.1.2.2.1, a3, a6, if_neg (nI_ge (by omega) (by omega)), show nI (W0.length + 1) - 1 = nI W0.length from nI_pred _, if_pos (pz_inb (by omega) (by omega)), nI_clamp (by omega), a1.1, if_neg (show ¬ nI o < 60 from nI_nlt (b := 60) ho (by omega)), a5, show nI (d + 1) - 1 = nI d from nI_pred _, p1]
    rfl
  unfold pm_qE
  rw [eL]
/-- the first part of least and greatest has ended -/
theorem pm_goComma {τ : sw_St} {t : Nat → Nat} {N use b e h f d base br : Nat} {x : Int32} {V W0 C : List Nat} (hq : pm_qs τ t N use b (V ++ br :: W0) C d base) (ht : ∀ i, t i < 256) (hN : N ≤ 1600) (hb : b ≤ N) (hb0 : base ≤ W0.length) (hk : tk_k t N b = 44) (hbr : br = 21 ∨ br = 22) (hV : ∀ o ∈ V, o < 20) : ∃ τ', pm_qE (e + 1) (h + 1) (f + 1) x τ = pm_qB sw_fuel f x τ' ∧ pm_qs τ' t N use (tk_e t N b) ((br + 2) :: W0) (C ++ V) d base ∧ pm_qf τ τ' := by
  obtain ⟨s40, s41, s42, s43, s44, s45, s47, -⟩ := tk_sgns
  have hgt := tk_e_gt hb (show tk_k t N b ≠ 301 by omega)
  have hl := hq.2.2.2
  have hl2 : V.length + W0.length + 1 + C.length ≤ b := by simp at hl; omega
  have hbr2 : 20 ≤ br ∧ br ≤ 24 := by omega
  have e0 : L_X11_qEndsPart_0 (e + 1) τ = some ((), τ) := pm_endsL hq.2.1 (by simp; omega) (by
    cases V with
    | nil => exact Or.inr ⟨br, W0, rfl, by omega⟩
    | cons o V' => exact Or.inr ⟨o, V' ++ br :: W0, rfl, by have := hV o (by simp); omega⟩)
  obtain ⟨τ1, p1, p2, p3⟩ := pm_goX (h := h) hq.1 ht hN hb (by omega)
  obtain ⟨τ2, q1, q2, q3⟩ := pm_s122o p2 ht hN hb (by omega)
  have m2 := p3.trans q3
  have hq2 := hq.lx m2 (by decide) (q2.ps hb) (Nat.le_refl _)
  have ebr := pm_bracket hq2.2.1 hV hbr2 hb0
  obtain ⟨τ3, r1, r2, r3⟩ := (pm_asksSg (q2.ps hb) ht hN hb s44).1 hk
  have hq3 := hq2.lx r3 (by decide) r2 (by omega)
  obtain ⟨τ4, u1, u2, u3⟩ := pm_toBr hq3.2.1 hV hbr2 hb0
  have m5 : pm_sm [72] [] τ4 (sw_uI τ4 72 W0.length (nI (br + 2))) := (pm_sm.refl _ _ τ4).I (by decide) (by decide) _ _
  obtain ⟨a1, a2, a3, a4, a5, a6, a7, a8, a9, a10⟩ := u2
  have q5 : pm_q (sw_uI τ4 72 W0.length (nI (br + 2))) ((br + 2) :: W0) (C ++ V) d base := ⟨⟨pz_Ie rfl rfl, pm_wt_cong (fun k hk => by rw [pz_Ik (by omega)]) a1.2⟩, fun i hi => by rw [m5.r (by decide) (by decide)]; exact a2 i hi, by rw [pz_Io (by decide)]; exact a3, by rw [pz_Io (by decide)]; exact a4, by rw [pz_Io (by decide)]; exact a5, by rw [pz_Io (by decide)]; exact a6, a7, fun o ho => by
    rcases List.mem_cons.mp ho with y | y
    · omega
    · exact a8 o (by simp [y]), a9, a10⟩
  have ps5 : pm_ps (sw_uI τ4 72 W0.length (nI (br + 2))) t N (tk_e t N b) := (r2.mv u3 (by decide) (by decide)).mv m5 (by decide) (by decide)
  have eS : S_X11_qGoesOn_326 τ2 = some (1, sw_uI τ4 72 W0.length (nI (br + 2))) := by
    simp only [List.length_cons] at a3 a7
    unfold S_X11_qGoesOn_326
    rw [show F_X11_asksSign τ2 44 = _ from r1]
    dsimp only [Option.bind_some]
    rw [if_pos r2.2.2.1, u1]
    dsimp only [Option.bind_some]
    rw [a3, show nI (W0.length + 1) - 1 = nI W0.length from nI_pred _, if_pos (pz_inb (by omega) (by omega)), if_pos (pz_inb (by omega) (by omega)), nI_clamp (by omega), a1.1, show nI br + 2 = nI (br + 2) from nI_add br 2]
  refine ⟨_, ?_, ⟨ps5, q5, by rw [pz_Io (by decide), u3.2.1 48 (by decide)]; exact hq3.2.2.1, by simp; omega⟩, (((m2.trans (r3.mono (by decide) (by decide))).mono (by decide) (by decide)).trans (u3.mono (by decide) (by decide))).trans (m5.mono (by decide) (by decide))⟩
  unfold pm_qE
  rw [e0]
  dsimp only [Option.bind_some]
  rw [p1, q1, ebr]
  dsimp only [Option.bind_some]
  have e326 : (if nI br = 21 then S_X11_qGoesOn_326 τ2 else ((F_X11_qBracket τ2).bind fun q6 => if q6.1 = 22 then (S_X11_qGoesOn_326 q6.2) else ((F_X11_qBracket q6.2).bind fun q7 => if q7.1 = (-1) then (S_X11_qGoesOn_386 q7.2) else (if (q7.2.1 0 5) = 0 then ((F_X11_fail q7.2 1 (q7.2.1 0 2)).bind fun q8 => S_X11_qGoesOn_386 q8.2) else (S_X11_qGoesOn_386 q7.2))))) = some (1, sw_uI τ4 72 W0.length (nI (br + 2))) := by
    rcases hbr with c | c
    · rw [if_pos (show nI br = 21 from by rw [c]; rfl), eS]
    · rw [if_neg (show ¬ nI br = 21 from by rw [c]; decide), ebr]
      dsimp only [Option.bind_some]
      rw [if_pos (show nI br = 22 from by rw [c]; rfl), eS]
  rw [e326]
  dsimp only [Option.bind_some]
  unfold q_rest
  rw [if_neg pz_10]
  exact pm_qgo ps5.2.2.1
/-- something is open that does not go on so -/
theorem pm_goErr {τ : sw_St} {t : Nat → Nat} {N use b e h f d base br : Nat} {x : Int32} {V W0 C : List Nat} (hq : pm_qs τ t N use b (V ++ br :: W0) C d base) (ht : ∀ i, t i < 256) (hN : N ≤ 1600) (hb : b ≤ N) (hb0 : base ≤ W0.length) (hk : tk_k t N b ≠ 42 ∧ tk_k t N b ≠ 47 ∧ tk_k t N b ≠ 43 ∧ tk_k t N b ≠ 45) (hbr : (br = 20 ∨ br = 23 ∨ br = 24) ∧ tk_k t N b ≠ 41 ∨ (br = 21 ∨ br = 22) ∧ tk_k t N b ≠ 44) (hV : ∀ o ∈ V, o < 20) : ∃ τ', pm_qE (e + 1) (h + 1) (f + 1) x τ = some ((), τ') ∧ pm_bd τ' 1 (tk_s t N b) ∧ pm_qf τ τ' := by
  obtain ⟨s40, s41, s42, s43, s44, s45, s47, -⟩ := tk_sgns
  have hbr2 : 20 ≤ br ∧ br ≤ 24 := by omega
  have e0 : L_X11_qEndsPart_0 (e + 1) τ = some ((), τ) := pm_endsL hq.2.1 (by simp; omega) (by
    cases V with
    | nil => exact Or.inr ⟨br, W0, rfl, by omega⟩
    | cons o V' => exact Or.inr ⟨o, V' ++ br :: W0, rfl, by have := hV o (by simp); omega⟩)
  have nb : ∀ c, br ≠ c → c < 100 → ¬ nI br = nI c := fun c hc hc2 y => hc ((nI_eq (by omega) (by omega)).mp y)
  -- to the joints
  have toS : ∃ τ1, L_X11_qGoesOn_0 (h + 1) τ = S_X11_qGoesOn_122 τ1 ∧ pm_ps τ1 t N b ∧ pm_sm [] [2] τ τ1 := by
    by_cases c41 : tk_k t N b = 41
    · obtain ⟨τ1, p1, p2, p3⟩ := pm_look hq.1 ht hN hb
      have hq1 := hq.lx p3 (by decide) (p2.ps hb) (Nat.le_refl _)
      have ebr := pm_bracket hq1.2.1 hV hbr2 hb0
      refine ⟨τ1, ?_, p2.ps hb, p3⟩
      show S_X11_qGoesOn_0 _ τ = _
      unfold S_X11_qGoesOn_0
      rw [if_pos hq.1.2.2.1, p1]
      dsimp only [Option.bind_some]
      rw [if_pos (show tk_c t N b = 41 from (pm_cIs ht s41).mpr c41), ebr]
      dsimp only [Option.bind_some]
      rw [if_neg (show ¬ nI br = 20 from nb 20 (by omega) (by omega)), ebr]
      dsimp only [Option.bind_some]
      rw [if_neg (show ¬ nI br = 23 from nb 23 (by omega) (by omega)), ebr]
      dsimp only [Option.bind_some]
      rw [if_neg (show ¬ nI br = 24 from nb 24 (by omega) (by omega))]
    · exact pm_goX hq.1 ht hN hb c41
  obtain ⟨τ1, p1, p2, p3⟩ := toS
  obtain ⟨τ2, q1, q2, q3⟩ := pm_s122o p2 ht hN hb hk
  have m2 := p3.trans q3
  have hq2 := hq.lx m2 (by decide) (q2.ps hb) (Nat.le_refl _)
  have ebr := pm_bracket hq2.2.1 hV hbr2 hb0
  have fin : ∃ τ3, ((F_X11_qBracket τ2).bind fun q5 => if q5.1 = 21 then (S_X11_qGoesOn_326 q5.2) else ((F_X11_qBracket q5.2).bind fun q6 => if q6.1 = 22 then (S_X11_qGoesOn_326 q6.2) else ((F_X11_qBracket q6.2).bind fun q7 => if q7.1 = (-1) then (S_X11_qGoesOn_386 q7.2) else (if (q7.2.1 0 5) = 0 then ((F_X11_fail q7.2 1 (q7.2.1 0 2)).bind fun q8 => S_X11_qGoesOn_386 q8.2) else (S_X11_qGoesOn_386 q7.2))))) = some (0, τ3) ∧ pm_bad τ3 1 (tk_s t N b) ∧ pm_sm [] [2, 5, 6] τ2 τ3 := by
    rw [ebr]
    dsimp only [Option.bind_some]
    by_cases c : br = 21 ∨ br = 22
    · have hk44 : tk_k t N b ≠ 44 := by omega
      obtain ⟨τ3, r1, r2, r3⟩ := (pm_asksSg (q2.ps hb) ht hN hb s44).2 hk44
      have eS : S_X11_qGoesOn_326 τ2 = some (0, τ3) := by
        unfold S_X11_qGoesOn_326
        rw [show F_X11_asksSign τ2 44 = _ from r1]
        dsimp only [Option.bind_some]
        rw [if_neg (by rw [r2.1]; decide)]
      refine ⟨τ3, ?_, r2, r3⟩
      rcases c with c | c
      · rw [if_pos (show nI br = 21 from by rw [c]; rfl), eS]
      · rw [if_neg (show ¬ nI br = 21 from by rw [c]; decide), ebr]
        dsimp only [Option.bind_some]
        rw [if_pos (show nI br = 22 from by rw [c]; rfl), eS]
    · obtain ⟨τ3, r1, r2, r3⟩ := pm_failN (τ := τ2) (kd := 1) (pl := tk_s t N b) q2.2.2.1
      refine ⟨τ3, ?_, r2, r3.mono (by decide) (by decide)⟩
      rw [if_neg (show ¬ nI br = 21 from nb 21 (by omega) (by omega)), ebr]
      dsimp only [Option.bind_some]
      rw [if_neg (show ¬ nI br = 22 from nb 22 (by omega) (by omega)), ebr]
      dsimp only [Option.bind_some]
      rw [if_neg (pz_nm1 (by omega)), if_pos q2.2.2.1, q2.2.1, show F_X11_fail τ2 1 (nI (tk_s t N b)) = _ from r1]
      rfl
  obtain ⟨τ3, r1, r2, r3⟩ := fin
  obtain ⟨τ4, u1, u2, u3⟩ := pm_qstop (x := x) (f := f) r2 (by omega)
  refine ⟨τ4, ?_, ⟨u2, by
    obtain ⟨n, hn1, hn2⟩ := pm_c95 hq2.2.1 r3 (by decide)
    exact ⟨n, hn1, by rw [u3.2.1 95 (by decide)]; exact hn2⟩⟩, ((m2.mono (by decide) (by decide)).trans (r3.mono (by decide) (by decide))).trans (u3.mono (by decide) (by decide))⟩
  unfold pm_qE
  rw [e0]
  dsimp only [Option.bind_some]
  rw [p1, q1, r1]
  dsimp only [Option.bind_some]
  unfold q_rest
  rw [if_pos rfl]
  exact u1
/-- the sum has ended -/
theorem pm_goEnd {τ : sw_St} {t : Nat → Nat} {N use b e h f d base was : Nat} {V W0 C : List Nat} (hq : pm_qs τ t N use b (V ++ W0) C d base) (ht : ∀ i, t i < 256) (hN : N ≤ 1600) (hb : b ≤ N) (hb0 : base = W0.length) (hwas : was ≤ 1650) (hk : tk_k t N b ≠ 42 ∧ tk_k t N b ≠ 47 ∧ tk_k t N b ≠ 43 ∧ tk_k t N b ≠ 45) (hV : ∀ o ∈ V, o < 20) : ∃ τ', pm_qE (e + 1) (h + 1) (f + 1) (nI was) τ = some ((), τ') ∧ pm_qs τ' t N use b W0 (C ++ V) d was ∧ pm_qf τ τ' := by
  obtain ⟨s40, s41, s42, s43, s44, s45, s47, -⟩ := tk_sgns
  have hl := hq.2.2.2
  have e0 : L_X11_qEndsPart_0 (e + 1) τ = some ((), τ) := pm_endsL hq.2.1 (by simp; omega) (by
    cases V with
    | nil => exact Or.inl hb0.symm
    | cons o V' => exact Or.inr ⟨o, V' ++ W0, rfl, by have := hV o (by simp); omega⟩)
  have toS : ∃ τ1, L_X11_qGoesOn_0 (h + 1) τ = S_X11_qGoesOn_122 τ1 ∧ pm_ps τ1 t N b ∧ pm_sm [] [2] τ τ1 := by
    by_cases c41 : tk_k t N b = 41
    · obtain ⟨τ1, p1, p2, p3⟩ := pm_look hq.1 ht hN hb
      have hq1 := hq.lx p3 (by decide) (p2.ps hb) (Nat.le_refl _)
      have ebr := pm_bracket0 hq1.2.1 hV hb0
      refine ⟨τ1, ?_, p2.ps hb, p3⟩
      show S_X11_qGoesOn_0 _ τ = _
      unfold S_X11_qGoesOn_0
      rw [if_pos hq.1.2.2.1, p1]
      dsimp only [Option.bind_some]
      rw [if_pos (show tk_c t N b = 41 from (pm_cIs ht s41).mpr c41), ebr]
      dsimp only [Option.bind_some]
      rw [if_neg (by decide), ebr]
      dsimp only [Option.bind_some]
      rw [if_neg (by decide), ebr]
      dsimp only [Option.bind_some]
      rw [if_neg (by decide)]
    · exact pm_goX hq.1 ht hN hb c41
  obtain ⟨τ1, p1, p2, p3⟩ := toS
  obtain ⟨τ2, q1, q2, q3⟩ := pm_s122o p2 ht hN hb hk
  have m2 := p3.trans q3
  have hq2 := hq.lx m2 (by decide) (q2.ps hb) (Nat.le_refl _)
  have ebr := pm_bracket0 hq2.2.1 hV hb0
  obtain ⟨τ3, r1, r2, r3⟩ := pm_tob (x := nI was) hb0 V C sw_fuel τ2 hq2.2.1 q2.2.2.1 (by have := sw_fuel_ge; simp at hl; omega)
  have m4 : pm_sm [] [99] τ3 (sw_uI τ3 0 99 (nI was)) := (pm_sm.refl _ _ τ3).K (by decide) _
  obtain ⟨a1, a2, a3, a4, a5, a6, a7, a8, a9, a10⟩ := r2
  refine ⟨sw_uI τ3 0 99 (nI was), ?_, ⟨(hq2.1.mv r3 (by decide) (by decide)).mv m4 (by decide) (by decide), ⟨pm_wt_cong (fun k _ => m4.r (by decide) (by decide) k) a1, fun i hi => by rw [m4.r (by decide) (by decide)]; exact a2 i hi, by rw [pz_Ik (by decide)]; exact a3, by rw [pz_Ik (by decide)]; exact a4, by rw [pz_Ik (by decide)]; exact a5, pz_Ie rfl rfl, a7, a8, a9, hwas⟩, by rw [pz_Ik (by decide), r3.2.1 48 (by decide)]; exact hq2.2.2.1, by simp at hl ⊢; omega⟩, ((m2.mono (by decide) (by decide)).trans (r3.mono (by decide) (by decide))).trans (m4.mono (by decide) (by decide))⟩
  unfold pm_qE
  rw [e0]
  dsimp only [Option.bind_some]
  rw [p1, q1, ebr]
  dsimp only [Option.bind_some]
  rw [if_neg (by decide), ebr]
  dsimp only [Option.bind_some]
  rw [if_neg (by decide), ebr]
  dsimp only [Option.bind_some]
  rw [if_pos rfl]
  unfold S_X11_qGoesOn_386
  dsimp only [Option.bind_some]
  unfold q_rest
  rw [if_pos rfl]
  show S_X11_qSums_15 _ τ2 (nI was) 0 = _
  unfold S_X11_qSums_15
  rw [if_pos rfl]
  exact r1

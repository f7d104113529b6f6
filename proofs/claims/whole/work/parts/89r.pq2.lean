/-! The reference goes on behind a part. -/
noncomputable def q_rest (f : Nat) (x : Int32) (q : Int32 × sw_St) : Option (Unit × sw_St) := if q.1 = 0 then L_X11_qSums_15 f q.2 x 0 else L_X11_qSums_15 f q.2 x 1
noncomputable def pm_qE (e h f : Nat) (x : Int32) (τ : sw_St) : Option (Unit × sw_St) := (L_X11_qEndsPart_0 e τ).bind fun q1 => (L_X11_qGoesOn_0 h q1.2).bind (q_rest f x)
noncomputable def pm_qB (g f : Nat) (x : Int32) (τ : sw_St) : Option (Unit × sw_St) := (L_X11_qPartTold_2 g τ 1).bind fun q1 => if (q1.2.1 0 5) = 0 then ((L_X11_qGoesOn_0 sw_fuel q1.2).bind (q_rest f x)) else L_X11_qSums_15 f q1.2 x 0
def pm_qs (τ : sw_St) (t : Nat → Nat) (N use b : Nat) (W C : List Nat) (d base : Nat) : Prop := pm_ps τ t N b ∧ pm_q τ W C d base ∧ τ.1 0 48 = nI use ∧ W.length + C.length ≤ b
theorem pm_qs.lx {τ τ' : sw_St} {t : Nat → Nat} {N use b b' : Nat} {W C : List Nat} {d base : Nat} {K : List Nat} (h : pm_qs τ t N use b W C d base) (m : pm_sm [] K τ τ') (hK : ∀ k ∈ K, k < 46) (hp : pm_ps τ' t N b') (hb : b ≤ b') : pm_qs τ' t N use b' W C d base := ⟨hp, h.2.1.mv m (fun k hk => by have := hK k hk; omega), by rw [m.2.1 48 (fun y => by have := hK _ y; omega)]; exact h.2.2.1, by have := h.2.2.2; omega⟩
/-- a fault, and the codes are not too many -/
def pm_bd (τ : sw_St) (kd pl : Nat) : Prop := pm_bad τ kd pl ∧ ∃ n, n ≤ 1650 ∧ τ.1 0 95 = nI n
theorem pm_c95 {τ τ' : sw_St} {W C : List Nat} {d base : Nat} {S K : List Nat} (h : pm_q τ W C d base) (m : pm_sm S K τ τ') (h95 : 95 ∉ K) : ∃ n, n ≤ 1650 ∧ τ'.1 0 95 = nI n := ⟨C.length, by have := h.2.2.2.2.2.2.1; omega, by rw [m.2.1 95 h95]; exact h.2.2.2.1⟩
theorem pm_qstop {τ : sw_St} {x : Int32} {f kd pl : Nat} (h : pm_bad τ kd pl) (hk : 0 < kd ∧ kd < 100) : ∃ τ', L_X11_qSums_15 (f + 1) τ x 0 = some ((), τ') ∧ pm_bad τ' kd pl ∧ pm_sm [] [99] τ τ' := by
  have h5 : ¬ τ.1 0 5 = 0 := by rw [h.1]; exact nI_ne0 hk.1 (by omega)
  obtain ⟨ff, hff⟩ : ∃ ff, sw_fuel = ff + 1 := ⟨sw_fuel - 1, by have := sw_fuel_ge; omega⟩
  refine ⟨sw_uI τ 0 99 x, ?_, ⟨by rw [pz_Ik (by decide)]; exact h.1, by rw [pz_Ik (by decide)]; exact h.2⟩, (pm_sm.refl _ _ τ).K (by decide) _⟩
  show S_X11_qSums_15 _ τ x 0 = _
  unfold S_X11_qSums_15
  rw [if_pos rfl, hff]
  show S_X11_qSums_53 _ τ x = _
  unfold S_X11_qSums_53 S_X11_qSums_78
  rw [if_neg h5]
theorem pm_qgo {τ : sw_St} {x : Int32} {f : Nat} (h5 : τ.1 0 5 = 0) : L_X11_qSums_15 (f + 1) τ x 1 = pm_qB sw_fuel f x τ := by
  show S_X11_qSums_15 _ τ x 1 = _
  unfold S_X11_qSums_15 S_X11_qSums_48 S_X11_qSums_49
  rw [if_neg pz_10, if_pos h5]
  rfl
theorem pm_l162 {x : Nat} {W0 : List Nat} {d base : Nat} (hx : x < 1000) (h3 : W0.head? ≠ some 3) (h4 : W0.head? ≠ some 4) : ∀ (V C : List Nat) (fuel : Nat) (τ : sw_St), pm_q τ (V ++ W0) C d base → (V ++ W0).length + C.length < 1650 → (∀ o ∈ V, o = 3 ∨ o = 4) → V.length < fuel → ∃ τ', L_X11_qGoesOn_162 fuel τ (nI x) = some (1, τ') ∧ pm_q τ' (x :: W0) (C ++ V) d base ∧ pm_sm [71, 72] [95, 97] τ τ'
  | [], C, fuel + 1, τ, h, hl, hV, hf => by
    have h : pm_q τ W0 C d base := h
    have hl : W0.length + C.length < 1650 := hl
    obtain ⟨p1, p2⟩ := pm_push (o := x) h hl hx
    refine ⟨_, ?_, by rw [List.append_nil]; exact p1, p2.mono (by decide) (by decide)⟩
    show S_X11_qGoesOn_162 _ τ (nI x) = _
    unfold S_X11_qGoesOn_162
    rw [show F_X11_qIsOn τ 3 = _ from pm_qIsOn (x := 3) h (by omega), decide_eq_false h3]
    dsimp only [Option.bind_some]
    rw [if_pos (show g_ok1 false = 0 from rfl), show F_X11_qIsOn τ 4 = _ from pm_qIsOn (x := 4) h (by omega), decide_eq_false h4]
    dsimp only [Option.bind_some]
    rw [if_pos (show g_ok1 false = 0 from rfl), h.2.2.1, if_pos (pz_inb (by omega) (by omega)), nI_clamp (by omega), nI_1]
  | o :: V, C, fuel + 1, τ, h, hl, hV, hf => by
    obtain ⟨τ1, p1, p2, p3⟩ := pm_qDrops (W := V ++ W0) (o := o) h
    have hl2 : (V ++ W0).length + 1 + C.length < 1650 := hl
    obtain ⟨τ2, q1, q2, q3⟩ := pm_l162 hx h3 h4 V (C ++ [o]) fuel τ1 p2 (by simp at hl2 ⊢; omega) (fun o2 h2 => hV o2 (by simp [h2])) (by simp at hf; omega)
    refine ⟨τ2, ?_, by rw [List.append_assoc] at q2; exact q2, (p3.mono (by decide) (by decide)).trans q3⟩
    show S_X11_qGoesOn_162 _ τ (nI x) = _
    unfold S_X11_qGoesOn_162 S_X11_qGoesOn_178
    rw [show F_X11_qIsOn τ 3 = _ from pm_qIsOn (x := 3) h (by omega)]
    dsimp only [Option.bind_some]
    rcases hV o (by simp) with e | e
    · rw [decide_eq_true (show (o :: V ++ W0).head? = some 3 from by rw [e]; rfl), if_neg (show ¬ g_ok1 true = 0 from pz_10), p1]
      exact q1
    · rw [decide_eq_false (show ¬ (o :: V ++ W0).head? = some 3 from by rw [e]; simp), if_pos (show g_ok1 false = 0 from rfl), show F_X11_qIsOn τ 4 = _ from pm_qIsOn (x := 4) h (by omega), decide_eq_true (show (o :: V ++ W0).head? = some 4 from by rw [e]; rfl)]
      dsimp only [Option.bind_some]
      rw [if_neg (show ¬ g_ok1 true = 0 from pz_10), p1]
      exact q1
theorem pm_l247 {x : Nat} {W0 : List Nat} {d base : Nat} (hx : x < 1000) (h1 : W0.head? ≠ some 1) (h2 : W0.head? ≠ some 2) (h3 : W0.head? ≠ some 3) (h4 : W0.head? ≠ some 4) : ∀ (V C : List Nat) (fuel : Nat) (τ : sw_St), pm_q τ (V ++ W0) C d base → (V ++ W0).length + C.length < 1650 → (∀ o ∈ V, o = 1 ∨ o = 2 ∨ o = 3 ∨ o = 4) → V.length < fuel → ∃ τ', L_X11_qGoesOn_247 fuel τ (nI x) = some (1, τ') ∧ pm_q τ' (x :: W0) (C ++ V) d base ∧ pm_sm [71, 72] [95, 97] τ τ'
  | [], C, fuel + 1, τ, h, hl, hV, hf => by
    have h : pm_q τ W0 C d base := h
    have hl : W0.length + C.length < 1650 := hl
    obtain ⟨p1, p2⟩ := pm_push (o := x) h hl hx
    refine ⟨_, ?_, by rw [List.append_nil]; exact p1, p2.mono (by decide) (by decide)⟩
    show S_X11_qGoesOn_247 _ τ (nI x) = _
    unfold S_X11_qGoesOn_247
    rw [show F_X11_qIsOn τ 3 = _ from pm_qIsOn (x := 3) h (by omega), decide_eq_false h3]
    dsimp only [Option.bind_some]
    rw [if_pos (show g_ok1 false = 0 from rfl), show F_X11_qIsOn τ 4 = _ from pm_qIsOn (x := 4) h (by omega), decide_eq_false h4]
    dsimp only [Option.bind_some]
    rw [if_pos (show g_ok1 false = 0 from rfl), show F_X11_qIsOn τ 1 = _ from pm_qIsOn (x := 1) h (by omega), decide_eq_false h1]
    dsimp only [Option.bind_some]
    rw [if_pos (show g_ok1 false = 0 from rfl), show F_X11_qIsOn τ 2 = _ from pm_qIsOn (x := 2) h (by omega), decide_eq_false h2]
    dsimp only [Option.bind_some]
    rw [if_pos (show g_ok1 false = 0 from rfl), h.2.2.1, if_pos (pz_inb (by omega) (by omega)), nI_clamp (by omega), nI_1]
  | o :: V, C, fuel + 1, τ, h, hl, hV, hf => by
    obtain ⟨τ1, p1, p2, p3⟩ := pm_qDrops (W := V ++ W0) (o := o) h
    have hl2 : (V ++ W0).length + 1 + C.length < 1650 := hl
    obtain ⟨τ2, q1, q2, q3⟩ := pm_l247 hx h1 h2 h3 h4 V (C ++ [o]) fuel τ1 p2 (by simp at hl2 ⊢; omega) (fun o2 h2 => hV o2 (by simp [h2])) (by simp at hf; omega)
    refine ⟨τ2, ?_, by rw [List.append_assoc] at q2; exact q2, (p3.mono (by decide) (by decide)).trans q3⟩
    show S_X11_qGoesOn_247 _ τ (nI x) = _
    have yes : ∀ j, o = j → (o :: V ++ W0).head? = some j := fun j e => by rw [e]; rfl
    have no : ∀ j, o ≠ j → ¬ (o :: V ++ W0).head? = some j := fun j e y => e (Option.some.inj y)
    unfold S_X11_qGoesOn_247 S_X11_qGoesOn_279
    rw [show F_X11_qIsOn τ 3 = _ from pm_qIsOn (x := 3) h (by omega)]
    dsimp only [Option.bind_some]
    by_cases e3 : o = 3
    · rw [decide_eq_true (yes 3 e3), if_neg (show ¬ g_ok1 true = 0 from pz_10), p1]
      exact q1
    · rw [decide_eq_false (no 3 e3), if_pos (show g_ok1 false = 0 from rfl), show F_X11_qIsOn τ 4 = _ from pm_qIsOn (x := 4) h (by omega)]
      dsimp only [Option.bind_some]
      by_cases e4 : o = 4
      · rw [decide_eq_true (yes 4 e4), if_neg (show ¬ g_ok1 true = 0 from pz_10), p1]
        exact q1
      · rw [decide_eq_false (no 4 e4), if_pos (show g_ok1 false = 0 from rfl), show F_X11_qIsOn τ 1 = _ from pm_qIsOn (x := 1) h (by omega)]
        dsimp only [Option.bind_some]
        by_cases e1 : o = 1
        · rw [decide_eq_true (yes 1 e1), if_neg (show ¬ g_ok1 true = 0 from pz_10), p1]
          exact q1
        · have e2 : o = 2 := by have := hV o (by simp); omega
          rw [decide_eq_false (no 1 e1), if_pos (show g_ok1 false = 0 from rfl), show F_X11_qIsOn τ 2 = _ from pm_qIsOn (x := 2) h (by omega), decide_eq_true (yes 2 e2)]
          dsimp only [Option.bind_some]
          rw [if_neg (show ¬ g_ok1 true = 0 from pz_10), p1]
          exact q1
theorem tk_sgns : tk_sgn 40 ∧ tk_sgn 41 ∧ tk_sgn 42 ∧ tk_sgn 43 ∧ tk_sgn 44 ∧ tk_sgn 45 ∧ tk_sgn 47 ∧ tk_sgn 59 ∧ tk_sgn 60 ∧ tk_sgn 61 ∧ tk_sgn 62 ∧ tk_sgn 91 ∧ tk_sgn 93 := by
  unfold tk_sgn
  omega
/-- a product goes on -/
theorem pm_s122m {τ : sw_St} {t : Nat → Nat} {N b : Nat} (h : pm_ps τ t N b) (ht : ∀ i, t i < 256) (hN : N ≤ 1600) (hb : b ≤ N) (hk : tk_k t N b = 42 ∨ tk_k t N b = 47) : ∃ τ', S_X11_qGoesOn_122 τ = L_X11_qGoesOn_162 sw_fuel τ' (nI (if tk_k t N b = 42 then 3 else 4)) ∧ pm_ps τ' t N (tk_e t N b) ∧ pm_sm [] [2] τ τ' := by
  obtain ⟨s40, s41, s42, s43, s44, s45, s47, -⟩ := tk_sgns
  have hes := tk_e_sp t hb
  have fin : ∀ τ2, pm_ps τ2 t N (tk_e t N b) → τ2.1 0 2 = nI (tk_e t N b) → S_X11_qGoesOn_140 τ2 = L_X11_qGoesOn_162 sw_fuel τ2 (nI (if tk_k t N b = 42 then 3 else 4)) := fun τ2 h2 ha => by
    have hs1 : tk_e t N b = tk_s t N b + 1 := by
      rcases hk with e | e
      · exact (tk_sg ht s42).2 e
      · exact (tk_sg ht s47).2 e
    unfold S_X11_qGoesOn_140 S_X11_qGoesOn_161
    rw [ha, hs1, show nI (tk_s t N b + 1) - 1 = nI (tk_s t N b) from nI_pred _, if_pos (pz_inb (by omega) (by omega)), nI_clamp (by omega), h2.1.1 _ (by omega)]
    rcases hk with e | e
    · rw [((tk_sg ht s42).1.mp e).2, if_pos (show nI 42 = 42 from rfl), if_pos e]
      rfl
    · rw [((tk_sg ht s47).1.mp e).2, if_neg (show ¬ nI 47 = 42 from by decide), if_neg (by omega)]
      rfl
  unfold S_X11_qGoesOn_122
  rcases hk with e | e
  · obtain ⟨τ2, q1, q2, q3, q4⟩ := (pm_takesSg h ht hN hb s42).1 e
    refine ⟨τ2, ?_, q2, q3⟩
    rw [show F_X11_takesSign τ 42 = _ from q1]
    dsimp only [Option.bind_some]
    rw [if_neg pz_10]
    exact fin τ2 q2 q4
  · obtain ⟨τ1, p1, p2, p3⟩ := (pm_takesSg h ht hN hb s42).2 (by omega)
    obtain ⟨τ2, q1, q2, q3, q4⟩ := (pm_takesSg (p2.ps hb) ht hN hb s47).1 e
    refine ⟨τ2, ?_, q2, p3.trans q3⟩
    rw [show F_X11_takesSign τ 42 = _ from p1]
    dsimp only [Option.bind_some]
    rw [if_pos rfl, show F_X11_takesSign τ1 47 = _ from q1]
    dsimp only [Option.bind_some]
    rw [if_neg pz_10]
    exact fin τ2 q2 q4
theorem pm_s122a {τ : sw_St} {t : Nat → Nat} {N b : Nat} (h : pm_ps τ t N b) (ht : ∀ i, t i < 256) (hN : N ≤ 1600) (hb : b ≤ N) (hk : tk_k t N b = 43 ∨ tk_k t N b = 45) : ∃ τ', S_X11_qGoesOn_122 τ = L_X11_qGoesOn_247 sw_fuel τ' (nI (if tk_k t N b = 43 then 1 else 2)) ∧ pm_ps τ' t N (tk_e t N b) ∧ pm_sm [] [2] τ τ' := by
  obtain ⟨s40, s41, s42, s43, s44, s45, s47, -⟩ := tk_sgns
  have hes := tk_e_sp t hb
  have fin : ∀ τ2, pm_ps τ2 t N (tk_e t N b) → τ2.1 0 2 = nI (tk_e t N b) → S_X11_qGoesOn_225 τ2 = L_X11_qGoesOn_247 sw_fuel τ2 (nI (if tk_k t N b = 43 then 1 else 2)) := fun τ2 h2 ha => by
    have hs1 : tk_e t N b = tk_s t N b + 1 := by
      rcases hk with e | e
      · exact (tk_sg ht s43).2 e
      · exact (tk_sg ht s45).2 e
    unfold S_X11_qGoesOn_225 S_X11_qGoesOn_246
    rw [ha, hs1, show nI (tk_s t N b + 1) - 1 = nI (tk_s t N b) from nI_pred _, if_pos (pz_inb (by omega) (by omega)), nI_clamp (by omega), h2.1.1 _ (by omega)]
    rcases hk with e | e
    · rw [((tk_sg ht s43).1.mp e).2, if_pos (show nI 43 = 43 from rfl), if_pos e]
      rfl
    · rw [((tk_sg ht s45).1.mp e).2, if_neg (show ¬ nI 45 = 43 from by decide), if_neg (by omega)]
      rfl
  obtain ⟨τ1, p1, p2, p3⟩ := (pm_takesSg h ht hN hb s42).2 (by omega)
  obtain ⟨τ2, q1, q2, q3⟩ := (pm_takesSg (p2.ps hb) ht hN hb s47).2 (by omega)
  unfold S_X11_qGoesOn_122
  rw [show F_X11_takesSign τ 42 = _ from p1]
  dsimp only [Option.bind_some]
  rw [if_pos rfl, show F_X11_takesSign τ1 47 = _ from q1]
  dsimp only [Option.bind_some]
  rw [if_pos rfl]
  rcases hk with e | e
  · obtain ⟨τ3, r1, r2, r3, r4⟩ := (pm_takesSg (q2.ps hb) ht hN hb s43).1 e
    refine ⟨τ3, ?_, r2, (p3.trans q3).trans r3⟩
    rw [show F_X11_takesSign τ2 43 = _ from r1]
    dsimp only [Option.bind_some]
    rw [if_neg pz_10]
    exact fin τ3 r2 r4
  · obtain ⟨τ3, r1, r2, r3⟩ := (pm_takesSg (q2.ps hb) ht hN hb s43).2 (by omega)
    obtain ⟨τ4, u1, u2, u3, u4⟩ := (pm_takesSg (r2.ps hb) ht hN hb s45).1 e
    refine ⟨τ4, ?_, u2, ((p3.trans q3).trans r3).trans u3⟩
    rw [show F_X11_takesSign τ2 43 = _ from r1]
    dsimp only [Option.bind_some]
    rw [if_pos rfl, show F_X11_takesSign τ3 45 = _ from u1]
    dsimp only [Option.bind_some]
    rw [if_neg pz_10]
    exact fin τ4 u2 u4
/-- nothing that joins -/
theorem pm_s122o {τ : sw_St} {t : Nat → Nat} {N b : Nat} (h : pm_ps τ t N b) (ht : ∀ i, t i < 256) (hN : N ≤ 1600) (hb : b ≤ N) (hk : tk_k t N b ≠ 42 ∧ tk_k t N b ≠ 47 ∧ tk_k t N b ≠ 43 ∧ tk_k t N b ≠ 45) : ∃ τ', S_X11_qGoesOn_122 τ = ((F_X11_qBracket τ').bind fun q5 => if q5.1 = 21 then (S_X11_qGoesOn_326 q5.2) else ((F_X11_qBracket q5.2).bind fun q6 => if q6.1 = 22 then (S_X11_qGoesOn_326 q6.2) else ((F_X11_qBracket q6.2).bind fun q7 => if q7.1 = (-1) then (S_X11_qGoesOn_386 q7.2) else (if (q7.2.1 0 5) = 0 then ((F_X11_fail q7.2 1 (q7.2.1 0 2)).bind fun q8 => S_X11_qGoesOn_386 q8.2) else (S_X11_qGoesOn_386 q7.2))))) ∧ pm_pa τ' t N b ∧ pm_sm [] [2] τ τ' := by
  obtain ⟨s40, s41, s42, s43, s44, s45, s47, -⟩ := tk_sgns
  obtain ⟨τ1, p1, p2, p3⟩ := (pm_takesSg h ht hN hb s42).2 hk.1
  obtain ⟨τ2, q1, q2, q3⟩ := (pm_takesSg (p2.ps hb) ht hN hb s47).2 hk.2.1
  obtain ⟨τ3, r1, r2, r3⟩ := (pm_takesSg (q2.ps hb) ht hN hb s43).2 hk.2.2.1
  obtain ⟨τ4, u1, u2, u3⟩ := (pm_takesSg (r2.ps hb) ht hN hb s45).2 hk.2.2.2
  refine ⟨τ4, ?_, u2, ((p3.trans q3).trans r3).trans u3⟩
  unfold S_X11_qGoesOn_122
  rw [show F_X11_takesSign τ 42 = _ from p1]
  dsimp only [Option.bind_some]
  rw [if_pos rfl, show F_X11_takesSign τ1 47 = _ from q1]
  dsimp only [Option.bind_some]
  rw [if_pos rfl, show F_X11_takesSign τ2 43 = _ from r1]
  dsimp only [Option.bind_some]
  rw [if_pos rfl, show F_X11_takesSign τ3 45 = _ from u1]
  dsimp only [Option.bind_some]
  rw [if_pos rfl]
/-- behind a part, no bracket that closes -/
theorem pm_goX {τ : sw_St} {t : Nat → Nat} {N b h : Nat} (hp : pm_ps τ t N b) (ht : ∀ i, t i < 256) (hN : N ≤ 1600) (hb : b ≤ N) (hk : tk_k t N b ≠ 41) : ∃ τ', L_X11_qGoesOn_0 (h + 1) τ = S_X11_qGoesOn_122 τ' ∧ pm_ps τ' t N b ∧ pm_sm [] [2] τ τ' := by
  obtain ⟨τ1, p1, p2, p3⟩ := pm_look hp ht hN hb
  refine ⟨τ1, ?_, p2.ps hb, p3⟩
  show S_X11_qGoesOn_0 _ τ = _
  unfold S_X11_qGoesOn_0
  rw [if_pos hp.2.2.1, p1]
  dsimp only [Option.bind_some]
  rw [if_neg (show ¬ tk_c t N b = 41 from fun y => hk ((pm_cIs ht tk_sgns.2.1).mp y))]
/-- a part joined by a sign -/
theorem pm_goMul {τ : sw_St} {t : Nat → Nat} {N use b e h f d base : Nat} {x : Int32} {V W0 C : List Nat} (hq : pm_qs τ t N use b (V ++ W0) C d base) (ht : ∀ i, t i < 256) (hN : N ≤ 1600) (hb : b ≤ N) (hb0 : base ≤ W0.length) (hk : tk_k t N b = 42 ∨ tk_k t N b = 47) (hV : V = [] ∨ ∃ o, V = [o] ∧ (o = 3 ∨ o = 4)) (h3 : W0.head? ≠ some 3) (h4 : W0.head? ≠ some 4) (ht0 : W0.length = base ∨ ∃ o W', W0 = o :: W' ∧ o < 60) : ∃ τ', pm_qE (e + 1) (h + 1) (f + 1) x τ = pm_qB sw_fuel f x τ' ∧ pm_qs τ' t N use (tk_e t N b) ((if tk_k t N b = 42 then 3 else 4) :: W0) (C ++ V) d base ∧ pm_qf τ τ' := by
  have hgt := tk_e_gt hb (show tk_k t N b ≠ 301 by omega)
  have hl := hq.2.2.2
  have e0 : L_X11_qEndsPart_0 (e + 1) τ = some ((), τ) := pm_endsL hq.2.1 (by simp; omega) (by
    rcases hV with hV | ⟨o, hV, ho⟩
    · rw [hV]; exact ht0
    · exact Or.inr ⟨o, W0, by rw [hV]; rfl, by omega⟩)
  obtain ⟨τ1, p1, p2, p3⟩ := pm_goX (h := h) hq.1 ht hN hb (by omega)
  obtain ⟨τ2, q1, q2, q3⟩ := pm_s122m p2 ht hN hb hk
  have m2 := p3.trans q3
  have hq2 := hq.lx m2 (by decide) q2 (by omega)
  obtain ⟨τ3, r1, r2, r3⟩ := pm_l162 (x := if tk_k t N b = 42 then 3 else 4) (W0 := W0) (by split <;> omega) h3 h4 V C sw_fuel τ2 hq2.2.1 (by omega) (fun o ho => by
    rcases hV with hV | ⟨o2, hV, ho2⟩
    · rw [hV] at ho; simp at ho
    · rw [hV] at ho; simp at ho; rw [ho]; exact ho2) (by have := sw_fuel_ge; rcases hV with hV | ⟨o2, hV, ho2⟩ <;> rw [hV] <;> simp <;> omega)
  refine ⟨τ3, ?_, ⟨q2.mv r3 (by decide) (by decide), r2, by rw [r3.2.1 48 (by decide)]; exact hq2.2.2.1, ?_⟩, (m2.mono (by decide) (by decide)).trans (r3.mono (by decide) (by decide))⟩
  · unfold pm_qE
    rw [e0]
    dsimp only [Option.bind_some]
    rw [p1, q1, r1]
    dsimp only [Option.bind_some]
    unfold q_rest
    rw [if_neg pz_10]
    exact pm_qgo (by rw [r3.2.1 5 (by decide)]; exact q2.2.2.1)
  · simp at hl ⊢
    omega
theorem pm_goAdd {τ : sw_St} {t : Nat → Nat} {N use b e h f d base : Nat} {x : Int32} {V W0 C : List Nat} (hq : pm_qs τ t N use b (V ++ W0) C d base) (ht : ∀ i, t i < 256) (hN : N ≤ 1600) (hb : b ≤ N) (hb0 : base ≤ W0.length) (hk : tk_k t N b = 43 ∨ tk_k t N b = 45) (hV : ∀ o ∈ V, o = 1 ∨ o = 2 ∨ o = 3 ∨ o = 4) (hV2 : V.length ≤ 2) (h1 : W0.head? ≠ some 1) (h2 : W0.head? ≠ some 2) (h3 : W0.head? ≠ some 3) (h4 : W0.head? ≠ some 4) (ht0 : W0.length = base ∨ ∃ o W', W0 = o :: W' ∧ o < 60) : ∃ τ', pm_qE (e + 1) (h + 1) (f + 1) x τ = pm_qB sw_fuel f x τ' ∧ pm_qs τ' t N use (tk_e t N b) ((if tk_k t N b = 43 then 1 else 2) :: W0) (C ++ V) d base ∧ pm_qf τ τ' := by
  have hgt := tk_e_gt hb (show tk_k t N b ≠ 301 by omega)
  have hl := hq.2.2.2
  have e0 : L_X11_qEndsPart_0 (e + 1) τ = some ((), τ) := pm_endsL hq.2.1 (by simp; omega) (by
    cases V with
    | nil => exact ht0
    | cons o V' => exact Or.inr ⟨o, V' ++ W0, rfl, by have := hV o (by simp); omega⟩)
  obtain ⟨τ1, p1, p2, p3⟩ := pm_goX (h := h) hq.1 ht hN hb (by omega)
  obtain ⟨τ2, q1, q2, q3⟩ := pm_s122a p2 ht hN hb hk
  have m2 := p3.trans q3
  have hq2 := hq.lx m2 (by decide) q2 (by omega)
  obtain ⟨τ3, r1, r2, r3⟩ := pm_l247 (x := if tk_k t N b = 43 then 1 else 2) (W0 := W0) (by split <;> omega) h1 h2 h3 h4 V C sw_fuel τ2 hq2.2.1 (by omega) hV (by have := sw_fuel_ge; omega)
  refine ⟨τ3, ?_, ⟨q2.mv r3 (by decide) (by decide), r2, by rw [r3.2.1 48 (by decide)]; exact hq2.2.2.1, ?_⟩, (m2.mono (by decide) (by decide)).trans (r3.mono (by decide) (by decide))⟩
  · unfold pm_qE
    rw [e0]
    dsimp only [Option.bind_some]
    rw [p1, q1, r1]
    dsimp only [Option.bind_some]
    unfold q_rest
    rw [if_neg pz_10]
    exact pm_qgo (by rw [r3.2.1 5 (by decide)]; exact q2.2.2.1)
  · simp at hl ⊢
    omega

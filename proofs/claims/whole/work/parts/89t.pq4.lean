/-! The reference: words of parts, and what a part begins with. -/
def q_wh (kd use : Nat) : Option Nat := if kd = 264 then some 0 else if kd = 269 then some 1 else if kd = 270 then some 2 else if kd = 257 then some 3 else if use < 3 ∧ kd = 271 then some 4 else if kd = 260 then some 5 else if kd = 272 then some 6 else if kd = 273 then some 7 else if kd = 274 then some 8 else if kd = 263 then some 9 else if kd = 271 then some 10 else if kd = 265 then some 11 else none
def q_al (k use : Nat) : Bool := if use = 0 then decide (k < 6) else if use = 1 then decide (k < 5) else if use = 2 then decide (k < 3 ∨ k = 6 ∨ k = 7) else decide (k < 3 ∨ 5 < k)
def q_wo (lo hi kd use : Nat) : Option Nat := match q_wh kd use with
  | none => none
  | some k => if k < lo then none else if hi ≤ k then none else if q_al k use = true then some k else none
def q_of (kd use : Nat) : Option Nat := if use = 3 then (if kd = 271 then some 10 else if kd = 265 then some 11 else none) else none
theorem q_wh_lt {kd use k : Nat} (h : q_wh kd use = some k) : k < 12 := by
  unfold q_wh at h
  repeat' split at h
  all_goals first
    | (have h2 := Option.some.inj h; omega)
    | cases h
theorem q_wo_sp {kd use : Nat} (hu : use ≤ 3) : q_wo 0 10 kd use = pp_var kd use ∧ q_wo 10 12 kd use = q_of kd use := by
  have u4 : use = 0 ∨ use = 1 ∨ use = 2 ∨ use = 3 := by omega
  by_cases hh : kd = 257 ∨ kd = 260 ∨ kd = 263 ∨ kd = 264 ∨ kd = 265 ∨ kd = 269 ∨ kd = 270 ∨ kd = 271 ∨ kd = 272 ∨ kd = 273 ∨ kd = 274
  · rcases hh with rfl | rfl | rfl | rfl | rfl | rfl | rfl | rfl | rfl | rfl | rfl <;> rcases u4 with rfl | rfl | rfl | rfl <;> exact ⟨rfl, rfl⟩
  · have n : q_wh kd use = none := by
      unfold q_wh
      rw [if_neg (by omega), if_neg (by omega), if_neg (by omega), if_neg (by omega), if_neg (by omega), if_neg (by omega), if_neg (by omega), if_neg (by omega), if_neg (by omega), if_neg (by omega), if_neg (by omega), if_neg (by omega)]
    unfold q_wo
    rw [n]
    refine ⟨?_, ?_⟩
    · unfold pp_var
      rw [if_neg (by omega), if_neg (by omega), if_neg (by omega), if_neg (by omega), if_neg (by omega), if_neg (by omega), if_neg (by omega), if_neg (by omega), if_neg (by omega), if_neg (by omega)]
    · show none = q_of kd use
      unfold q_of
      by_cases c3 : use = 3
      · rw [if_pos c3, if_neg (by omega), if_neg (by omega)]
      · rw [if_neg c3]
theorem pm_wHere {τ : sw_St} {t : Nat → Nat} {N b use : Nat} (h : pm_ps τ t N b) (ht : ∀ i, t i < 256) (hN : N ≤ 1600) (hb : b ≤ N) (hu : τ.1 0 48 = nI use) (hu3 : use ≤ 3) : ∃ τ', F_X11_qWordHere τ = some (oI (q_wh (tk_k t N b) use), τ') ∧ pm_pa τ' t N b ∧ pm_sm [] [2] τ τ' := by
  unfold F_X11_qWordHere q_wh
  have hS73 : ∀ τ0, pm_ps τ0 t N b → ∃ τ', S_X11_qWordHere_73 τ0 = some (oI (if tk_k t N b = 260 then some 5 else if tk_k t N b = 272 then some 6 else if tk_k t N b = 273 then some 7 else if tk_k t N b = 274 then some 8 else if tk_k t N b = 263 then some 9 else if tk_k t N b = 271 then some 10 else if tk_k t N b = 265 then some 11 else none), τ') ∧ pm_pa τ' t N b ∧ pm_sm [] [2] τ0 τ' := fun τ0 h0 => by
    unfold S_X11_qWordHere_73
    obtain ⟨τ5, p5, p5a, p5m⟩ := pm_isHere (x := (64, 260)) h0 ht hN hb (by decide)
    rw [show F_X11_isHere τ0 64 = _ from p5]
    dsimp only [Option.bind_some]
    by_cases c5 : tk_k t N b = 260
    · rw [decide_eq_true c5, if_neg (show ¬ g_ok1 true = 0 from pz_10), if_pos c5]
      exact ⟨τ5, rfl, p5a, p5m⟩
    · rw [decide_eq_false c5, if_pos (show g_ok1 false = 0 from rfl), if_neg c5]
      obtain ⟨τ6, p6, p6a, p6m⟩ := pm_isHere (x := (65, 272)) (p5a.ps hb) ht hN hb (by decide)
      rw [show F_X11_isHere τ5 65 = _ from p6]
      dsimp only [Option.bind_some]
      by_cases c6 : tk_k t N b = 272
      · rw [decide_eq_true c6, if_neg (show ¬ g_ok1 true = 0 from pz_10), if_pos c6]
        exact ⟨τ6, rfl, p6a, (p5m.trans p6m)⟩
      · rw [decide_eq_false c6, if_pos (show g_ok1 false = 0 from rfl), if_neg c6]
        obtain ⟨τ7, p7, p7a, p7m⟩ := pm_isHere (x := (66, 273)) (p6a.ps hb) ht hN hb (by decide)
        rw [show F_X11_isHere τ6 66 = _ from p7]
        dsimp only [Option.bind_some]
        by_cases c7 : tk_k t N b = 273
        · rw [decide_eq_true c7, if_neg (show ¬ g_ok1 true = 0 from pz_10), if_pos c7]
          exact ⟨τ7, rfl, p7a, ((p5m.trans p6m).trans p7m)⟩
        · rw [decide_eq_false c7, if_pos (show g_ok1 false = 0 from rfl), if_neg c7]
          obtain ⟨τ8, p8, p8a, p8m⟩ := pm_isHere (x := (67, 274)) (p7a.ps hb) ht hN hb (by decide)
          rw [show F_X11_isHere τ7 67 = _ from p8]
          dsimp only [Option.bind_some]
          by_cases c8 : tk_k t N b = 274
          · rw [decide_eq_true c8, if_neg (show ¬ g_ok1 true = 0 from pz_10), if_pos c8]
            exact ⟨τ8, rfl, p8a, (((p5m.trans p6m).trans p7m).trans p8m)⟩
          · rw [decide_eq_false c8, if_pos (show g_ok1 false = 0 from rfl), if_neg c8]
            obtain ⟨τ9, p9, p9a, p9m⟩ := pm_isHere (x := (68, 263)) (p8a.ps hb) ht hN hb (by decide)
            rw [show F_X11_isHere τ8 68 = _ from p9]
            dsimp only [Option.bind_some]
            by_cases c9 : tk_k t N b = 263
            · rw [decide_eq_true c9, if_neg (show ¬ g_ok1 true = 0 from pz_10), if_pos c9]
              exact ⟨τ9, rfl, p9a, ((((p5m.trans p6m).trans p7m).trans p8m).trans p9m)⟩
            · rw [decide_eq_false c9, if_pos (show g_ok1 false = 0 from rfl), if_neg c9]
              obtain ⟨τ10, p10, p10a, p10m⟩ := pm_isHere (x := (69, 271)) (p9a.ps hb) ht hN hb (by decide)
              rw [show F_X11_isHere τ9 69 = _ from p10]
              dsimp only [Option.bind_some]
              by_cases c10 : tk_k t N b = 271
              · rw [decide_eq_true c10, if_neg (show ¬ g_ok1 true = 0 from pz_10), if_pos c10]
                exact ⟨τ10, rfl, p10a, (((((p5m.trans p6m).trans p7m).trans p8m).trans p9m).trans p10m)⟩
              · rw [decide_eq_false c10, if_pos (show g_ok1 false = 0 from rfl), if_neg c10]
                obtain ⟨τ11, p11, p11a, p11m⟩ := pm_isHere (x := (70, 265)) (p10a.ps hb) ht hN hb (by decide)
                rw [show F_X11_isHere τ10 70 = _ from p11]
                dsimp only [Option.bind_some]
                by_cases c11 : tk_k t N b = 265
                · rw [decide_eq_true c11, if_neg (show ¬ g_ok1 true = 0 from pz_10), if_pos c11]
                  exact ⟨τ11, rfl, p11a, ((((((p5m.trans p6m).trans p7m).trans p8m).trans p9m).trans p10m).trans p11m)⟩
                · rw [decide_eq_false c11, if_pos (show g_ok1 false = 0 from rfl), if_neg c11]
                  exact ⟨τ11, rfl, p11a, ((((((p5m.trans p6m).trans p7m).trans p8m).trans p9m).trans p10m).trans p11m)⟩
  obtain ⟨τ0, p0, p0a, p0m⟩ := pm_isHere (x := (59, 264)) h ht hN hb (by decide)
  rw [show F_X11_isHere τ 59 = _ from p0]
  dsimp only [Option.bind_some]
  by_cases c0 : tk_k t N b = 264
  · rw [decide_eq_true c0, if_neg (show ¬ g_ok1 true = 0 from pz_10), if_pos c0]
    exact ⟨τ0, rfl, p0a, p0m⟩
  · rw [decide_eq_false c0, if_pos (show g_ok1 false = 0 from rfl), if_neg c0]
    obtain ⟨τ1, p1, p1a, p1m⟩ := pm_isHere (x := (60, 269)) (p0a.ps hb) ht hN hb (by decide)
    rw [show F_X11_isHere τ0 60 = _ from p1]
    dsimp only [Option.bind_some]
    by_cases c1 : tk_k t N b = 269
    · rw [decide_eq_true c1, if_neg (show ¬ g_ok1 true = 0 from pz_10), if_pos c1]
      exact ⟨τ1, rfl, p1a, (p0m.trans p1m)⟩
    · rw [decide_eq_false c1, if_pos (show g_ok1 false = 0 from rfl), if_neg c1]
      obtain ⟨τ2, p2, p2a, p2m⟩ := pm_isHere (x := (61, 270)) (p1a.ps hb) ht hN hb (by decide)
      rw [show F_X11_isHere τ1 61 = _ from p2]
      dsimp only [Option.bind_some]
      by_cases c2 : tk_k t N b = 270
      · rw [decide_eq_true c2, if_neg (show ¬ g_ok1 true = 0 from pz_10), if_pos c2]
        exact ⟨τ2, rfl, p2a, ((p0m.trans p1m).trans p2m)⟩
      · rw [decide_eq_false c2, if_pos (show g_ok1 false = 0 from rfl), if_neg c2]
        obtain ⟨τ3, p3, p3a, p3m⟩ := pm_isHere (x := (62, 257)) (p2a.ps hb) ht hN hb (by decide)
        rw [show F_X11_isHere τ2 62 = _ from p3]
        dsimp only [Option.bind_some]
        by_cases c3 : tk_k t N b = 257
        · rw [decide_eq_true c3, if_neg (show ¬ g_ok1 true = 0 from pz_10), if_pos c3]
          exact ⟨τ3, rfl, p3a, (((p0m.trans p1m).trans p2m).trans p3m)⟩
        · rw [decide_eq_false c3, if_pos (show g_ok1 false = 0 from rfl), if_neg c3]
          by_cases cu : use < 3
          · rw [if_neg (show ¬ (3 : Int32) ≤ τ3.1 0 48 from by rw [(((p0m.trans p1m).trans p2m).trans p3m).2.1 48 (by decide), hu]; exact nI_ge (b := 3) cu (by omega))]
            obtain ⟨τ4, p4, p4a, p4m⟩ := pm_isHere (x := (63, 271)) (p3a.ps hb) ht hN hb (by decide)
            rw [show F_X11_isHere τ3 63 = _ from p4]
            dsimp only [Option.bind_some]
            by_cases c4 : tk_k t N b = 271
            · rw [decide_eq_true c4, if_neg (show ¬ g_ok1 true = 0 from pz_10), if_pos ⟨cu, c4⟩]
              exact ⟨τ4, rfl, p4a, (((p0m.trans p1m).trans p2m).trans p3m).trans p4m⟩
            · rw [decide_eq_false c4, if_pos (show g_ok1 false = 0 from rfl), if_neg (fun y => c4 y.2)]
              obtain ⟨τ', y1, y2, y3⟩ := hS73 τ4 (p4a.ps hb)
              exact ⟨τ', y1, y2, ((((p0m.trans p1m).trans p2m).trans p3m).trans p4m).trans y3⟩
          · rw [if_pos (show (3 : Int32) ≤ τ3.1 0 48 from by rw [(((p0m.trans p1m).trans p2m).trans p3m).2.1 48 (by decide), hu]; exact nI_le (a := 3) (by omega) (by omega)), if_neg (fun y => cu y.1)]
            obtain ⟨τ', y1, y2, y3⟩ := hS73 τ3 (p3a.ps hb)
            exact ⟨τ', y1, y2, (((p0m.trans p1m).trans p2m).trans p3m).trans y3⟩
theorem pm_allow {τ : sw_St} {k use : Nat} (hk : k < 12) (hu : τ.1 0 48 = nI use) (hu3 : use ≤ 3) : F_X11_isAllowed τ (nI k) = some (g_ok1 (q_al k use), τ) := by
  unfold F_X11_isAllowed S_X11_isAllowed_43 S_X11_isAllowed_54 S_X11_isAllowed_74 S_X11_isAllowed_79 S_X11_isAllowed_90 S_X11_isAllowed_95 q_al
  rw [hu]
  simp only [eq_self, true_or, or_true, if_true]
  have e : ∀ c, c < 10 → (nI use = nI c ↔ use = c) := fun c hc => nI_eq (by omega) (by omega)
  by_cases u0 : use = 0
  · rw [if_pos (show nI use = 0 from (e 0 (by omega)).mpr u0), if_pos u0]
    by_cases c : k < 6
    · rw [if_neg (show ¬ (6 : Int32) ≤ nI k from nI_ge (b := 6) c (by omega)), decide_eq_true c]
      rfl
    · rw [if_pos (show (6 : Int32) ≤ nI k from nI_le (a := 6) (by omega) (by omega)), decide_eq_false c]
      rfl
  · rw [if_neg (show ¬ nI use = 0 from fun y => u0 ((e 0 (by omega)).mp y)), if_neg u0]
    by_cases u1 : use = 1
    · rw [if_pos (show nI use = 1 from (e 1 (by omega)).mpr u1), if_pos u1]
      by_cases c : k < 5
      · rw [if_neg (show ¬ (5 : Int32) ≤ nI k from nI_ge (b := 5) c (by omega)), decide_eq_true c]
        rfl
      · rw [if_pos (show (5 : Int32) ≤ nI k from nI_le (a := 5) (by omega) (by omega)), decide_eq_false c]
        rfl
    · rw [if_neg (show ¬ nI use = 1 from fun y => u1 ((e 1 (by omega)).mp y)), if_neg u1]
      by_cases u2 : use = 2
      · rw [if_pos (show nI use = 2 from (e 2 (by omega)).mpr u2), if_pos u2]
        by_cases c : k < 3
        · rw [if_pos (show nI k < 3 from nI_lt (b := 3) c (by omega)), decide_eq_true (Or.inl c)]
          rfl
        · rw [if_neg (show ¬ nI k < 3 from nI_nlt (b := 3) (by omega) (by omega)), pm_isIn, px_wide, nI_toInt (by omega), show (6 : Int64).toInt = 6 from by decide, show (7 : Int64).toInt = 7 from by decide]
          dsimp only [Option.bind_some]
          by_cases c2 : k = 6 ∨ k = 7
          · rw [if_pos (show (6 : Int) ≤ (k : Int) ∧ (k : Int) ≤ 7 by omega), if_neg pz_10, decide_eq_true (Or.inr c2)]
            rfl
          · rw [if_neg (show ¬ ((6 : Int) ≤ (k : Int) ∧ (k : Int) ≤ 7) by omega), if_pos rfl, decide_eq_false (by omega)]
            rfl
      · rw [if_neg (show ¬ nI use = 2 from fun y => u2 ((e 2 (by omega)).mp y)), if_neg u2]
        by_cases c : k < 3
        · rw [if_pos (show nI k < 3 from nI_lt (b := 3) c (by omega)), decide_eq_true (Or.inl c)]
          rfl
        · rw [if_neg (show ¬ nI k < 3 from nI_nlt (b := 3) (by omega) (by omega))]
          by_cases c2 : k ≤ 5
          · rw [if_pos (show nI k ≤ 5 from nI_le (b := 5) c2 (by omega)), decide_eq_false (by omega)]
            rfl
          · rw [if_neg (show ¬ nI k ≤ 5 from nI_ge (a := 5) (by omega) (by omega)), decide_eq_true (by omega)]
            rfl
theorem pm_wOf {τ : sw_St} {t : Nat → Nat} {N b use lo hi : Nat} (h : pm_ps τ t N b) (ht : ∀ i, t i < 256) (hN : N ≤ 1600) (hb : b ≤ N) (hu : τ.1 0 48 = nI use) (hu3 : use ≤ 3) (hlo : lo < 100) (hhi : hi < 100) : ∃ τ', F_X11_qWordOf τ (nI lo) (nI hi) = some (oI (q_wo lo hi (tk_k t N b) use), τ') ∧ pm_pa τ' t N b ∧ pm_sm [] [2] τ τ' := by
  obtain ⟨τ1, p1, p2, p3⟩ := pm_wHere h ht hN hb hu hu3
  refine ⟨τ1, ?_, p2, p3⟩
  unfold F_X11_qWordOf S_X11_qWordOf_27 S_X11_qWordOf_28 q_wo
  rw [p1]
  dsimp only [Option.bind_some]
  cases hw : q_wh (tk_k t N b) use with
  | none =>
    dsimp only
    rw [if_pos (show oI none < nI lo from by rw [fa_lt, nI_toInt (by omega), show (oI none).toInt = -1 from by decide]; omega)]
    rfl
  | some k =>
    have hk := q_wh_lt hw
    dsimp only
    rw [show oI (some k) = nI k from rfl]
    by_cases c1 : k < lo
    · rw [if_pos (nI_lt c1 (by omega)), if_pos c1]
      rfl
    · rw [if_neg (nI_nlt (by omega) (by omega)), if_neg c1]
      by_cases c2 : hi ≤ k
      · rw [if_pos (nI_le c2 (by omega)), if_pos c2]
        rfl
      · rw [if_neg (nI_ge (by omega) (by omega)), if_neg c2, pm_allow hk (by rw [p3.2.1 48 (by decide)]; exact hu) hu3]
        dsimp only [Option.bind_some]
        cases q_al k use
        · rw [if_pos (show g_ok1 false = 0 from rfl), if_neg (by decide)]
          rfl
        · rw [if_neg (show ¬ g_ok1 true = 0 from pz_10), if_pos rfl]
          rfl
theorem pm_qAsk {τ : sw_St} {k : Nat} (hk : k < 12) : F_X11_qAsksWord τ (nI k) = (F_X11_asks τ (59 + k)).bind fun q => some ((), q.2) := by
  have c : k = 0 ∨ k = 1 ∨ k = 2 ∨ k = 3 ∨ k = 4 ∨ k = 5 ∨ k = 6 ∨ k = 7 ∨ k = 8 ∨ k = 9 ∨ k = 10 ∨ k = 11 := by omega
  rcases c with rfl | rfl | rfl | rfl | rfl | rfl | rfl | rfl | rfl | rfl | rfl | rfl <;> rfl
theorem q_ckv {kd use v : Nat} (h : pp_var kd use = some v) : (59 + v, kd) ∈ pm_ck := by
  unfold pp_var at h
  repeat' split at h
  all_goals first
    | (rename_i hy; have h2 := Option.some.inj h; rw [← h2]; subst hy; decide)
    | (rename_i hy hz; have h2 := Option.some.inj h; rw [← h2]; subst hy; decide)
    | cases h


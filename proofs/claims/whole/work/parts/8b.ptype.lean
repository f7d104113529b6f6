/-! Codes that are read are well made. -/
theorem pe_wtA {kind : Nat} : ∀ (P Q T : List Nat), pe_wt kind (P ++ Q) T = (pe_wt kind P T).bind (pe_wt kind Q)
  | [], Q, T => rfl
  | c :: P, Q, T => by
    show (pe_ty kind c T).bind (pe_wt kind (P ++ Q)) = ((pe_ty kind c T).bind (pe_wt kind P)).bind (pe_wt kind Q)
    cases pe_ty kind c T with
    | none => rfl
    | some T' => exact pe_wtA P Q T'
theorem pe_wt1 {kind c : Nat} (T : List Nat) : pe_wt kind [c] T = pe_ty kind c T := by
  show (pe_ty kind c T).bind (pe_wt kind []) = pe_ty kind c T
  cases pe_ty kind c T <;> rfl
/-- a piece is of this kind, on a row that is not too long -/
def pe_is (use y w : Nat) (P : List Nat) : Prop := ∀ T : List Nat, T.length + w ≤ 59 → pe_wt use P T = some (y :: T)
def pp_T (use y w : Nat) (r : tR) : Prop := ∀ q, r = .ok q → pe_is use y w q.1
/-- a row of pieces joined by signs -/
theorem pl_typ {t : Nat → Nat} {N use y w : Nat} {item : Nat → tR} {op : Nat → Option Nat} (hit : ∀ b, pp_T use y w (item b)) (hop : ∀ k o, op k = some o → ∀ T, pe_ty use o (y :: y :: T) = some (y :: T)) : ∀ (n b : Nat) (pend : List Nat) (q : List Nat × Nat), pl_loop t N item op n pend b = .ok q → (pend = [] → pe_is use y (w + 1) q.1) ∧ (∀ o k, pend = [o] → op k = some o → ∀ T : List Nat, T.length + (w + 1) ≤ 59 → pe_wt use q.1 (y :: T) = some (y :: T))
  | 0, b, pend, q, h => by cases h
  | n + 1, b, pend, q, h => by
    obtain ⟨q1, C3, e1, e2, e3⟩ := pl_loop_ok h
    have h1 := hit b q1 e1
    -- what comes behind
    have rest : ∀ T : List Nat, T.length + (w + 1) ≤ 59 → pe_wt use C3 (y :: T) = some (y :: T) := fun T hT => by
      rcases e3 with ⟨-, hC, -⟩ | ⟨o, ho, e3⟩
      · rw [hC]; rfl
      · exact (pl_typ hit hop n _ [o] _ e3).2 o _ rfl ho T hT
    refine ⟨fun hp T hT => ?_, fun o k hp ho T hT => ?_⟩
    · rw [e2, hp, List.nil_append, pe_wtA, h1 T (by omega)]
      exact rest T hT
    · rw [e2, hp, pe_wtA, h1 (y :: T) (by simp; omega)]
      show pe_wt use ([o] ++ C3) (y :: y :: T) = _
      rw [pe_wtA, pe_wt1, hop k o ho T]
      exact rest T hT
theorem pe_tyN {use v : Nat} {T : List Nat} (hv : v < 10000) (hT : T.length < 60) : pe_ty use (1000 + v) T = some (0 :: T) := by
  unfold pe_ty
  rw [if_pos (by omega), if_pos ⟨by omega, hT⟩]
theorem pe_tyV {use kd v : Nat} {T : List Nat} (hu : use ≤ 3) (hv : pp_var kd use = some v) (hT : T.length < 60) : pe_ty use (40 + v) T = some (0 :: T) := by
  have hv10 := pp_var_lt hv
  have hal : pe_al use v = true := by
    have u4 : use = 0 ∨ use = 1 ∨ use = 2 ∨ use = 3 := by omega
    unfold pp_var at hv
    rcases u4 with rfl | rfl | rfl | rfl <;> (repeat' split at hv) <;> first
      | (exfalso; omega)
      | (cases hv; done)
      | (have h2 := Option.some.inj hv; rw [← h2]; rfl)
  unfold pe_ty
  rw [if_neg (by omega), if_neg (by omega), if_pos (by omega), show 40 + v - 40 = v by omega, if_pos ⟨hal, hT⟩]
theorem tk_num_lt {t : Nat → Nat} {N lo lim b : Nat} {r : Nat × Nat} (hn : tk_num t N lo lim b = .ok r) : r.1 < lim := by
  unfold tk_num at hn
  split at hn
  · split at hn
    · split at hn
      · next c =>
        rw [← Except.ok.inj hn]
        exact c.2
      · cases hn
    · cases hn
  · cases hn
theorem pp_typ {t : Nat → Nat} {N use : Nat} (hu : use ≤ 3) : ∀ (k g d b : Nat), d ≤ 6 → g ≤ 5 → pp_T use (if g ≤ 2 then 1 else 0) (6 - g + 3 * (6 - d)) (pp t N use k g d b)
  | 0, g, d, b, hd, hg => fun q hq => by cases hq
  | k + 1, g, d, b, hd, hg => by
    have ih := fun g d b hd hg => pp_typ (t := t) (N := N) hu k g d b hd hg
    have eP : pp t N use (k + 1) g d b = pp_st t N use (fun g d b => pp t N use k g d b) g d b := rfl
    intro q hq
    rw [eP] at hq
    unfold pp_st at hq
    have g6 : g = 0 ∨ g = 1 ∨ g = 2 ∨ g = 3 ∨ g = 4 ∨ g = 5 := by omega
    rcases g6 with e | e | e | e | e | e
    · rw [e] at hq ⊢
      rw [if_pos rfl] at hq
      have := (pl_typ (y := 1) (w := 5 + 3 * (6 - d)) (fun b1 => by have := ih 1 d b1 hd (by omega); exact this) (fun kk o ho T => by
        unfold pp_o0 at ho
        split at ho
        · rw [← Option.some.inj ho]; rfl
        · cases ho) (N + 1) b [] q hq).1 rfl
      intro T hT
      exact this T (by omega)
    · rw [e] at hq ⊢
      rw [if_neg (by omega), if_pos rfl] at hq
      have := (pl_typ (y := 1) (w := 4 + 3 * (6 - d)) (fun b1 => by have := ih 2 d b1 hd (by omega); exact this) (fun kk o ho T => by
        unfold pp_o1 at ho
        split at ho
        · rw [← Option.some.inj ho]; rfl
        · cases ho) (N + 1) b [] q hq).1 rfl
      intro T hT
      exact this T (by omega)
    · rw [e] at hq ⊢
      rw [if_neg (by omega), if_neg (by omega), if_pos rfl] at hq
      intro T hT
      show pe_wt use q.1 T = some (1 :: T)
      have hT : T.length + (4 + 3 * (6 - d)) ≤ 59 := hT
      unfold pp_fact at hq
      split at hq
      · split at hq
        · cases hq
        · next hd6 =>
          obtain ⟨q1, C2, e1, e2, e3⟩ := pp_sq_ok hq
          obtain ⟨-, e4⟩ := pp_exp_ok e2
          have hC2 : C2 = [] := (congrArg Prod.fst (Except.ok.inj e4)).symm
          have := ih 0 (d + 1) _ (by omega) (by omega) q1 e1 T (by omega)
          rw [e3, hC2, List.append_nil]
          exact this
      · split at hq
        · split at hq
          · cases hq
          · next hd6 =>
            obtain ⟨q1, C2, e1, e2, e3⟩ := pp_sq_ok hq
            have hC2 : C2 = [12] := (congrArg Prod.fst (Except.ok.inj e2)).symm
            have := ih 2 (d + 1) _ (by omega) (by omega) q1 e1 T (by omega)
            have this : pe_wt use q1.1 T = some (1 :: T) := this
            rw [e3, hC2, pe_wtA, this]
            show pe_wt use [12] (1 :: T) = _
            rw [pe_wt1]
            rfl
        · split at hq
          · rw [← Except.ok.inj hq]
            show pe_wt use [13] T = _
            rw [pe_wt1]
            unfold pe_ty
            rw [if_neg (by decide), if_neg (by decide), if_neg (by decide), if_pos rfl, if_pos (by omega)]
          · obtain ⟨q1, C2, e1, e2, e3⟩ := pp_sq_ok hq
            cases hsg : pp_sg (tk_k t N q1.2) with
            | none =>
              rw [hsg] at e2
              cases e2
            | some o =>
              rw [hsg] at e2
              (try dsimp only at e2)
              obtain ⟨q3, C3, e4, e5, e6⟩ := pp_sq_ok e2
              have e6 : C2 = q3.1 ++ C3 := e6
              have hC3 : C3 = [o] := (congrArg Prod.fst (Except.ok.inj e5)).symm
              have h1 : pe_wt use q1.1 T = some (0 :: T) := ih 3 d _ hd (by omega) q1 e1 T (by omega)
              have h2 : pe_wt use q3.1 (0 :: T) = some (0 :: 0 :: T) := ih 3 d _ hd (by omega) q3 e4 (0 :: T) (by simp; omega)
              rw [e3, e6, hC3, pe_wtA, h1]
              show pe_wt use (q3.1 ++ [o]) (0 :: T) = _
              rw [pe_wtA, h2]
              show pe_wt use [o] (0 :: 0 :: T) = _
              rw [pe_wt1]
              rcases pp_sgc hsg with ⟨-, y⟩ | ⟨-, y⟩ | ⟨-, y⟩ <;> (rw [y]; rfl)
    · rw [e] at hq ⊢
      rw [if_neg (by omega), if_neg (by omega), if_neg (by omega), if_pos rfl] at hq
      have := (pl_typ (y := 0) (w := 2 + 3 * (6 - d)) (fun b1 => by have := ih 4 d b1 hd (by omega); exact this) (fun kk o ho T => by
        unfold pp_o3 at ho
        split at ho
        · rw [← Option.some.inj ho]; rfl
        · split at ho
          · rw [← Option.some.inj ho]; rfl
          · cases ho) (N + 1) b [] q hq).1 rfl
      intro T hT
      exact this T (by omega)
    · rw [e] at hq ⊢
      rw [if_neg (by omega), if_neg (by omega), if_neg (by omega), if_neg (by omega), if_pos rfl] at hq
      have := (pl_typ (y := 0) (w := 1 + 3 * (6 - d)) (fun b1 => by have := ih 5 d b1 hd (by omega); exact this) (fun kk o ho T => by
        unfold pp_o4 at ho
        split at ho
        · rw [← Option.some.inj ho]; rfl
        · split at ho
          · rw [← Option.some.inj ho]; rfl
          · cases ho) (N + 1) b [] q hq).1 rfl
      intro T hT
      exact this T (by omega)
    · rw [e] at hq ⊢
      rw [if_neg (by omega), if_neg (by omega), if_neg (by omega), if_neg (by omega), if_neg (by omega)] at hq
      intro T hT
      show pe_wt use q.1 T = some (0 :: T)
      have hT : T.length + (1 + 3 * (6 - d)) ≤ 59 := hT
      have mm : ∀ b1 o, (o = 5 ∨ o = 6) → pp_mm t N (fun g d b => pp t N use k g d b) d b1 o = .ok q → pe_wt use q.1 T = some (0 :: T) := fun b1 o ho h => by
        unfold pp_mm at h
        split at h
        · split at h
          · cases h
          · obtain ⟨q1, C2, e1, e2, e3⟩ := pp_sq_ok h
            obtain ⟨-, e4⟩ := pp_exp_ok e2
            obtain ⟨q3, C3, e5, e6, e7⟩ := pp_sq_ok e4
            obtain ⟨-, e8⟩ := pp_exp_ok e6
            have e7 : C2 = q3.1 ++ C3 := e7
            have hC3 : C3 = [o] := (congrArg Prod.fst (Except.ok.inj e8)).symm
            have h1 : pe_wt use q1.1 T = some (0 :: T) := ih 3 (d + 1) _ (by omega) (by omega) q1 e1 T (by omega)
            have h2 : pe_wt use q3.1 (0 :: T) = some (0 :: 0 :: T) := ih 3 (d + 1) _ (by omega) (by omega) q3 e5 (0 :: T) (by simp; omega)
            rw [e3, e7, hC3, pe_wtA, h1]
            show pe_wt use (q3.1 ++ [o]) (0 :: T) = _
            rw [pe_wtA, h2]
            show pe_wt use [o] (0 :: 0 :: T) = _
            rw [pe_wt1]
            rcases ho with y | y <;> (rw [y]; rfl)
        · cases h
      unfold pp_part at hq
      split at hq
      · split at hq
        · cases hq
        · obtain ⟨q1, C2, e1, e2, e3⟩ := pp_sq_ok hq
          obtain ⟨-, e4⟩ := pp_exp_ok e2
          have hC2 : C2 = [] := (congrArg Prod.fst (Except.ok.inj e4)).symm
          have h1 : pe_wt use q1.1 T = some (0 :: T) := ih 3 (d + 1) _ (by omega) (by omega) q1 e1 T (by omega)
          rw [e3, hC2, List.append_nil]
          exact h1
      · split at hq
        · exact mm _ 5 (Or.inl rfl) hq
        · split at hq
          · exact mm _ 6 (Or.inr rfl) hq
          · split at hq
            · cases hn : tk_num t N 0 10000 b with
              | error e =>
                rw [hn] at hq
                cases hq
              | ok r =>
                rw [hn] at hq
                have hr : r.1 < 10000 := tk_num_lt hn
                rw [← Except.ok.inj hq]
                show pe_wt use [1000 + r.1] T = _
                rw [pe_wt1]
                exact pe_tyN hr (by omega)
            · split at hq
              · next c =>
                split at hq
                · cases hq
                · obtain ⟨q1, C2, e1, e2, e3⟩ := pp_sq_ok hq
                  have hC2 : C2 = [if tk_k t N b = 271 then 60 else 61] := (congrArg Prod.fst (Except.ok.inj e2)).symm
                  have h1 : pe_wt use q1.1 T = some (0 :: T) := ih 5 (d + 1) _ (by omega) (by omega) q1 e1 T (by omega)
                  rw [e3, hC2, pe_wtA, h1]
                  show pe_wt use [if tk_k t N b = 271 then 60 else 61] (0 :: T) = _
                  rw [pe_wt1, c.1]
                  split <;> rfl
              · cases hv : pp_var (tk_k t N b) use with
                | none =>
                  rw [hv] at hq
                  cases hq
                | some v =>
                  rw [hv] at hq
                  rw [← Except.ok.inj hq]
                  show pe_wt use [40 + v] T = _
                  rw [pe_wt1]
                  exact pe_tyV hu hv (by omega)

/-! Sums: the reference. -/
def pm_top (g : Nat) (W0 : List Nat) (base : Nat) : Prop := (g ≤ 4 → W0.head? ≠ some 3 ∧ W0.head? ≠ some 4 ∧ (W0.length = base ∨ ∃ o W', W0 = o :: W' ∧ o < 60)) ∧ (g ≤ 3 → W0.head? ≠ some 1 ∧ W0.head? ≠ some 2)
def pm_VO (g : Nat) (V : List Nat) : Prop := (g = 5 → V = []) ∧ (g = 4 → V = [] ∨ ∃ o, V = [o] ∧ (o = 3 ∨ o = 4)) ∧ (g = 3 → (∀ o ∈ V, o = 1 ∨ o = 2 ∨ o = 3 ∨ o = 4) ∧ V.length ≤ 2)
def tk_no (t : Nat → Nat) (N g b : Nat) : Prop := (g ≤ 4 → tk_k t N b ≠ 42 ∧ tk_k t N b ≠ 47) ∧ (g ≤ 3 → tk_k t N b ≠ 43 ∧ tk_k t N b ≠ 45)
/-- what reading a piece of a sum does -/
def pm_RE (t : Nat → Nat) (N use g d b : Nat) (r : tR) (τ : sw_St) (W0 C : List Nat) (base : Nat) (x : Int32) (gf f : Nat) : Prop :=
  (∀ q, r = .ok q → ∃ τ' V C' e h' f', pm_qB gf f x τ = pm_qE (e + 1) (h' + 1) (f' + 1) x τ' ∧ pm_qs τ' t N use q.2 (V ++ W0) C' d base ∧ C' ++ V = C ++ q.1 ∧ pm_VO g V ∧ pm_qf τ τ' ∧ (V ++ W0).length ≤ e ∧ N + 2 ≤ q.2 + h' ∧ N + 2 ≤ q.2 + f' ∧ b < q.2 ∧ q.2 ≤ N ∧ tk_no t N g q.2) ∧
  (∀ e, r = .error e → ∃ τ', pm_qB gf f x τ = some ((), τ') ∧ pm_bd τ' e.1 e.2 ∧ pm_qf τ τ' ∧ 0 < e.1 ∧ e.1 < 100)
def pm_RP (t : Nat → Nat) (N use g d b : Nat) (r : tR) : Prop := ∀ (τ : sw_St) (W0 C : List Nat) (base : Nat) (x : Int32) (gf f : Nat), pm_qs τ t N use b W0 C d base → base ≤ W0.length → pm_top g W0 base → N + 3 ≤ b + gf → N + 3 ≤ b + f → pm_RE t N use g d b r τ W0 C base x gf f
theorem pl_loop_ok {t : Nat → Nat} {N n b : Nat} {item : Nat → tR} {op : Nat → Option Nat} {pend : List Nat} {q : List Nat × Nat} (h : pl_loop t N item op (n + 1) pend b = .ok q) : ∃ (q1 : List Nat × Nat) (C3 : List Nat), item b = .ok q1 ∧ q.1 = q1.1 ++ (pend ++ C3) ∧ ((op (tk_k t N q1.2) = none ∧ C3 = [] ∧ q.2 = q1.2) ∨ ∃ o, op (tk_k t N q1.2) = some o ∧ pl_loop t N item op n [o] (tk_e t N q1.2) = .ok (C3, q.2)) := by
  have h2 : pp_bd (item b) (fun C b1 => pp_ap C (pp_ap pend (match op (tk_k t N b1) with
    | none => .ok ([], b1)
    | some o => pl_loop t N item op n [o] (tk_e t N b1)))) = .ok q := h
  obtain ⟨q1, e1, e2⟩ := pp_bd_ok h2
  obtain ⟨C2, e3, e4⟩ := pp_ap_ok e2
  obtain ⟨C3, e5, e6⟩ := pp_ap_ok e3
  refine ⟨q1, C3, e1, by rw [e4]; exact congrArg (q1.1 ++ ·) e6, ?_⟩
  cases hop : op (tk_k t N q1.2) with
  | none =>
    rw [hop] at e5
    have e7 := Except.ok.inj e5
    exact Or.inl ⟨rfl, (congrArg Prod.fst e7).symm, (congrArg Prod.snd e7).symm⟩
  | some o =>
    rw [hop] at e5
    exact Or.inr ⟨o, rfl, e5⟩
theorem pl_loop_er {t : Nat → Nat} {N n b : Nat} {item : Nat → tR} {op : Nat → Option Nat} {pend : List Nat} {e : Nat × Nat} (h : pl_loop t N item op (n + 1) pend b = .error e) : item b = .error e ∨ ∃ (q1 : List Nat × Nat) (o : Nat), item b = .ok q1 ∧ op (tk_k t N q1.2) = some o ∧ pl_loop t N item op n [o] (tk_e t N q1.2) = .error e := by
  have h2 : pp_bd (item b) (fun C b1 => pp_ap C (pp_ap pend (match op (tk_k t N b1) with
    | none => .ok ([], b1)
    | some o => pl_loop t N item op n [o] (tk_e t N b1)))) = .error e := h
  rcases pp_bd_er h2 with e1 | ⟨q1, e1, e2⟩
  · exact Or.inl e1
  · have e3 := pp_ap_er (pp_ap_er e2)
    cases hop : op (tk_k t N q1.2) with
    | none =>
      rw [hop] at e3
      cases e3
    | some o =>
      rw [hop] at e3
      exact Or.inr ⟨q1, o, e1, hop, e3⟩
theorem pm_lprod {t : Nat → Nat} {N use d : Nat} {item : Nat → tR} (ht : ∀ i, t i < 256) (hN : N ≤ 1600) (hit : ∀ b, b ≤ N → pm_RP t N use 5 d b (item b)) : ∀ (n b : Nat) (pend : List Nat) (τ : sw_St) (W0 C : List Nat) (base : Nat) (x : Int32) (gf f : Nat), pm_qs τ t N use b (pend ++ W0) C d base → base ≤ W0.length → pm_top 4 W0 base → (pend = [] ∨ ∃ o, pend = [o] ∧ (o = 3 ∨ o = 4)) → b ≤ N → N < b + n → N + 3 ≤ b + gf → N + 3 ≤ b + f → pm_RE t N use 4 d b (pl_loop t N item pp_o4 n pend b) τ W0 C base x gf f
  | 0, b, pend, τ, W0, C, base, x, gf, f, hq, hb0, htop, hp, hb, hn, hgf, hf => by omega
  | n + 1, b, pend, τ, W0, C, base, x, gf, f, hq, hb0, htop, hp, hb, hn, hgf, hf => by
    have hfu := sw_fuel_ge
    have htop' : pm_top 5 (pend ++ W0) base := by
      exact ⟨fun y => by omega, fun y => by omega⟩
    obtain ⟨i1, i2⟩ := hit b hb τ (pend ++ W0) C base x gf f hq (by simp; omega) htop' hgf hf
    -- behind an item
    have next : ∀ (q1 : List Nat × Nat) (o : Nat), item b = .ok q1 → pp_o4 (tk_k t N q1.2) = some o → ∃ τ2 f2, pm_qB gf f x τ = pm_qB sw_fuel f2 x τ2 ∧ pm_qs τ2 t N use (tk_e t N q1.2) ([o] ++ W0) (C ++ q1.1 ++ pend) d base ∧ pm_qf τ τ2 ∧ N + 3 ≤ tk_e t N q1.2 + f2 ∧ b < tk_e t N q1.2 ∧ tk_e t N q1.2 ≤ N ∧ (o = 3 ∨ o = 4) := fun q1 o e1 e2 => by
      obtain ⟨τ1, V, C', e, h', f', p1, p2, p3, p4, p5, p6, p7, p8, p9, p10, p11⟩ := i1 q1 e1
      have hk : (tk_k t N q1.2 = 42 ∨ tk_k t N q1.2 = 47) ∧ o = (if tk_k t N q1.2 = 42 then 3 else 4) := by
        unfold pp_o4 at e2
        split at e2
        · next c => exact ⟨Or.inl c, by rw [if_pos c]; exact (Option.some.inj e2).symm⟩
        · split at e2
          · next c1 c2 => exact ⟨Or.inr c2, by rw [if_neg c1]; exact (Option.some.inj e2).symm⟩
          · cases e2
      have hgt := tk_e_gt p10 (show tk_k t N q1.2 ≠ 301 by omega)
      have hVn : V = [] := p4.1 rfl
      rw [hVn] at p2 p3
      rw [List.append_nil] at p3
      rw [List.nil_append] at p2
      obtain ⟨t3, t4, t5⟩ := htop.1 (by omega)
      obtain ⟨τ2, g1, g2, g3⟩ := pm_goMul (e := e) (h := h') (f := f') (x := x) p2 ht hN p10 hb0 hk.1 hp t3 t4 t5
      refine ⟨τ2, f', p1.trans g1, ?_, p5.trans g3, by omega, by omega, (tk_e_sp t p10).2.1, by rw [hk.2]; split <;> omega⟩
      rw [hk.2, ← p3]
      exact g2
    constructor
    · intro q hq0
      obtain ⟨q1, C3, e1, e4, e5⟩ := pl_loop_ok hq0
      rcases e5 with ⟨hop, hC3, hq2⟩ | ⟨o, hop, e5⟩
      · obtain ⟨τ1, V, C', e, h', f', p1, p2, p3, p4, p5, p6, p7, p8, p9, p10, p11⟩ := i1 q1 e1
        have hkn : tk_k t N q1.2 ≠ 42 ∧ tk_k t N q1.2 ≠ 47 := by
          unfold pp_o4 at hop
          refine ⟨fun y => ?_, fun y => ?_⟩ <;> (rw [y] at hop; cases hop)
        have hVn : V = [] := p4.1 rfl
        rw [hVn] at p2 p3 p6
        rw [List.append_nil] at p3
        rw [List.nil_append] at p2 p6
        refine ⟨τ1, pend, C', e, h', f', p1, by rw [hq2]; exact p2, by rw [e4, hC3, p3]; simp, ⟨fun y => by omega, fun _ => hp, fun y => by omega⟩, p5, p6, by rw [hq2]; exact p7, by rw [hq2]; exact p8, by omega, by omega, by rw [hq2]; exact ⟨fun _ => hkn, fun y => by omega⟩⟩
      · obtain ⟨τ2, f2, n1, n2, n3, n4, n5, n6, n7⟩ := next q1 o e1 hop
        obtain ⟨τ3, V, C', e, h', f', r1, r2, r3, r4, r5, r6, r7, r8, r9, r10, r11⟩ := (pm_lprod ht hN hit n (tk_e t N q1.2) [o] τ2 W0 (C ++ q1.1 ++ pend) base x sw_fuel f2 n2 hb0 htop (Or.inr ⟨o, rfl, n7⟩) n6 (by omega) (by omega) n4).1 _ e5
        refine ⟨τ3, V, C', e, h', f', n1.trans r1, r2, by rw [r3, e4]; simp, r4, n3.trans r5, r6, r7, r8, ?_, r10, r11⟩
        have : tk_e t N q1.2 < q.2 := r9
        omega
    · intro e he
      rcases pl_loop_er he with e1 | ⟨q1, o, e1, hop, e3⟩
      · exact i2 e e1
      · obtain ⟨τ2, f2, n1, n2, n3, n4, n5, n6, n7⟩ := next q1 o e1 hop
        obtain ⟨τ3, r1, r2, r3, r4⟩ := (pm_lprod ht hN hit n (tk_e t N q1.2) [o] τ2 W0 (C ++ q1.1 ++ pend) base x sw_fuel f2 n2 hb0 htop (Or.inr ⟨o, rfl, n7⟩) n6 (by omega) (by omega) n4).2 _ e3
        exact ⟨τ3, n1.trans r1, r2, n3.trans r3, r4⟩
theorem pm_lsums {t : Nat → Nat} {N use d : Nat} {item : Nat → tR} (ht : ∀ i, t i < 256) (hN : N ≤ 1600) (hit : ∀ b, b ≤ N → pm_RP t N use 4 d b (item b)) : ∀ (n b : Nat) (pend : List Nat) (τ : sw_St) (W0 C : List Nat) (base : Nat) (x : Int32) (gf f : Nat), pm_qs τ t N use b (pend ++ W0) C d base → base ≤ W0.length → pm_top 3 W0 base → (pend = [] ∨ ∃ o, pend = [o] ∧ (o = 1 ∨ o = 2)) → b ≤ N → N < b + n → N + 3 ≤ b + gf → N + 3 ≤ b + f → pm_RE t N use 3 d b (pl_loop t N item pp_o3 n pend b) τ W0 C base x gf f
  | 0, b, pend, τ, W0, C, base, x, gf, f, hq, hb0, htop, hp, hb, hn, hgf, hf => by omega
  | n + 1, b, pend, τ, W0, C, base, x, gf, f, hq, hb0, htop, hp, hb, hn, hgf, hf => by
    have hfu := sw_fuel_ge
    have htop' : pm_top 4 (pend ++ W0) base := by
      refine ⟨fun _ => ?_, fun y => by omega⟩
      rcases hp with hp | ⟨o, hp, ho⟩
      · rw [hp]; exact htop.1 (by omega)
      · rw [hp]
        refine ⟨fun y => ?_, fun y => ?_, Or.inr ⟨o, W0, rfl, by omega⟩⟩
        · have := Option.some.inj (show some o = some 3 from y)
          omega
        · have := Option.some.inj (show some o = some 4 from y)
          omega
    obtain ⟨i1, i2⟩ := hit b hb τ (pend ++ W0) C base x gf f hq (by simp; omega) htop' hgf hf
    -- behind an item
    have next : ∀ (q1 : List Nat × Nat) (o : Nat), item b = .ok q1 → pp_o3 (tk_k t N q1.2) = some o → ∃ τ2 f2, pm_qB gf f x τ = pm_qB sw_fuel f2 x τ2 ∧ pm_qs τ2 t N use (tk_e t N q1.2) ([o] ++ W0) (C ++ q1.1 ++ pend) d base ∧ pm_qf τ τ2 ∧ N + 3 ≤ tk_e t N q1.2 + f2 ∧ b < tk_e t N q1.2 ∧ tk_e t N q1.2 ≤ N ∧ (o = 1 ∨ o = 2) := fun q1 o e1 e2 => by
      obtain ⟨τ1, V, C', e, h', f', p1, p2, p3, p4, p5, p6, p7, p8, p9, p10, p11⟩ := i1 q1 e1
      have hk : (tk_k t N q1.2 = 43 ∨ tk_k t N q1.2 = 45) ∧ o = (if tk_k t N q1.2 = 43 then 1 else 2) := by
        unfold pp_o3 at e2
        split at e2
        · next c => exact ⟨Or.inl c, by rw [if_pos c]; exact (Option.some.inj e2).symm⟩
        · split at e2
          · next c1 c2 => exact ⟨Or.inr c2, by rw [if_neg c1]; exact (Option.some.inj e2).symm⟩
          · cases e2
      have hgt := tk_e_gt p10 (show tk_k t N q1.2 ≠ 301 by omega)
      obtain ⟨t3, t4, t5⟩ := htop.1 (by omega)
      obtain ⟨t1, t2⟩ := htop.2 (by omega)
      have hV4 := p4.2.1 rfl
      have hall : (∀ o ∈ V ++ pend, o = 1 ∨ o = 2 ∨ o = 3 ∨ o = 4) ∧ (V ++ pend).length ≤ 2 := by
        rcases hV4 with y | ⟨v, y, yv⟩
        · rw [y]
          rcases hp with z | ⟨u, z, zu⟩
          · rw [z]; exact ⟨fun o ho => by simp at ho, by simp⟩
          · rw [z]; exact ⟨fun o ho => by simp at ho; omega, by simp⟩
        · rw [y]
          rcases hp with z | ⟨u, z, zu⟩
          · rw [z]; exact ⟨fun o ho => by simp at ho; omega, by simp⟩
          · rw [z]; exact ⟨fun o ho => by simp at ho; omega, by simp⟩
      rw [← List.append_assoc] at p2
      obtain ⟨τ2, g1, g2, g3⟩ := pm_goAdd (e := e) (h := h') (f := f') (x := x) p2 ht hN p10 hb0 hk.1 hall.1 hall.2 t1 t2 t3 t4 t5
      refine ⟨τ2, f', p1.trans g1, ?_, p5.trans g3, by omega, by omega, (tk_e_sp t p10).2.1, by rw [hk.2]; split <;> omega⟩
      rw [hk.2, ← p3, List.append_assoc]
      exact g2
    constructor
    · intro q hq0
      obtain ⟨q1, C3, e1, e4, e5⟩ := pl_loop_ok hq0
      rcases e5 with ⟨hop, hC3, hq2⟩ | ⟨o, hop, e5⟩
      · obtain ⟨τ1, V, C', e, h', f', p1, p2, p3, p4, p5, p6, p7, p8, p9, p10, p11⟩ := i1 q1 e1
        have hkn : tk_k t N q1.2 ≠ 43 ∧ tk_k t N q1.2 ≠ 45 := by
          unfold pp_o3 at hop
          refine ⟨fun y => ?_, fun y => ?_⟩ <;> (rw [y] at hop; cases hop)
        have hV4 := p4.2.1 rfl
        have hall : (∀ o ∈ V ++ pend, o = 1 ∨ o = 2 ∨ o = 3 ∨ o = 4) ∧ (V ++ pend).length ≤ 2 := by
          rcases hV4 with y | ⟨v, y, yv⟩
          · rw [y]
            rcases hp with z | ⟨u, z, zu⟩
            · rw [z]; exact ⟨fun o ho => by simp at ho, by simp⟩
            · rw [z]; exact ⟨fun o ho => by simp at ho; omega, by simp⟩
          · rw [y]
            rcases hp with z | ⟨u, z, zu⟩
            · rw [z]; exact ⟨fun o ho => by simp at ho; omega, by simp⟩
            · rw [z]; exact ⟨fun o ho => by simp at ho; omega, by simp⟩
        rw [← List.append_assoc] at p2 p6
        refine ⟨τ1, V ++ pend, C', e, h', f', p1, by rw [hq2]; exact p2, by rw [e4, hC3, ← List.append_assoc, p3]; simp, ⟨fun y => by omega, fun y => by omega, fun _ => hall⟩, p5, p6, by rw [hq2]; exact p7, by rw [hq2]; exact p8, by omega, by omega, by rw [hq2]; exact ⟨fun _ => p11.1 (by omega), fun _ => hkn⟩⟩
      · obtain ⟨τ2, f2, n1, n2, n3, n4, n5, n6, n7⟩ := next q1 o e1 hop
        obtain ⟨τ3, V, C', e, h', f', r1, r2, r3, r4, r5, r6, r7, r8, r9, r10, r11⟩ := (pm_lsums ht hN hit n (tk_e t N q1.2) [o] τ2 W0 (C ++ q1.1 ++ pend) base x sw_fuel f2 n2 hb0 htop (Or.inr ⟨o, rfl, n7⟩) n6 (by omega) (by omega) n4).1 _ e5
        refine ⟨τ3, V, C', e, h', f', n1.trans r1, r2, by rw [r3, e4]; simp, r4, n3.trans r5, r6, r7, r8, ?_, r10, r11⟩
        have : tk_e t N q1.2 < q.2 := r9
        omega
    · intro e he
      rcases pl_loop_er he with e1 | ⟨q1, o, e1, hop, e3⟩
      · exact i2 e e1
      · obtain ⟨τ2, f2, n1, n2, n3, n4, n5, n6, n7⟩ := next q1 o e1 hop
        obtain ⟨τ3, r1, r2, r3, r4⟩ := (pm_lsums ht hN hit n (tk_e t N q1.2) [o] τ2 W0 (C ++ q1.1 ++ pend) base x sw_fuel f2 n2 hb0 htop (Or.inr ⟨o, rfl, n7⟩) n6 (by omega) (by omega) n4).2 _ e3
        exact ⟨τ3, n1.trans r1, r2, n3.trans r3, r4⟩

/-! Sums and tests, pure, and as the class reads them. -/
abbrev tR : Type := Except (Nat × Nat) (List Nat × Nat)
def pp_bd (r : tR) (f : List Nat → Nat → tR) : tR := match r with
  | .error e => .error e
  | .ok q => f q.1 q.2
def pp_ap (C : List Nat) (r : tR) : tR := pp_bd r (fun C2 b => .ok (C ++ C2, b))
def pp_sq (r : tR) (k : Nat → tR) : tR := pp_bd r (fun C b => pp_ap C (k b))
def pp_exp (t : Nat → Nat) (N kd b : Nat) (k : Nat → tR) : tR := if tk_k t N b = kd then k (tk_e t N b) else .error (1, tk_s t N b)
def pl_loop (t : Nat → Nat) (N : Nat) (item : Nat → tR) (op : Nat → Option Nat) : Nat → List Nat → Nat → tR
  | 0, _, _ => .error (9, 9)
  | n + 1, pend, b => pp_sq (item b) (fun b1 => pp_ap pend (match op (tk_k t N b1) with
    | none => .ok ([], b1)
    | some o => pl_loop t N item op n [o] (tk_e t N b1)))
def pp_o0 (k : Nat) : Option Nat := if k = 275 then some 11 else none
def pp_o1 (k : Nat) : Option Nat := if k = 276 then some 10 else none
def pp_o3 (k : Nat) : Option Nat := if k = 43 then some 1 else if k = 45 then some 2 else none
def pp_o4 (k : Nat) : Option Nat := if k = 42 then some 3 else if k = 47 then some 4 else none
def pp_sg (k : Nat) : Option Nat := if k = 60 then some 7 else if k = 61 then some 9 else if k = 62 then some 8 else none
def pp_var (kd use : Nat) : Option Nat :=
  if kd = 264 then some 0 else if kd = 269 then some 1 else if kd = 270 then some 2 else if kd = 257 then (if use ≤ 1 then some 3 else none) else if kd = 271 then (if use ≤ 1 then some 4 else none)
  else if kd = 260 then (if use = 0 then some 5 else none) else if kd = 272 then (if 2 ≤ use then some 6 else none) else if kd = 273 then (if 2 ≤ use then some 7 else none) else if kd = 274 then (if use = 3 then some 8 else none)
  else if kd = 263 then (if use = 3 then some 9 else none) else none
def pp_fact (t : Nat → Nat) (N : Nat) (rc : Nat → Nat → Nat → tR) (d b : Nat) : tR :=
  if tk_k t N b = 91 then (if 6 ≤ d then .error (4, tk_s t N b) else pp_sq (rc 0 (d + 1) (tk_e t N b)) (fun b1 => pp_exp t N 93 b1 (fun b2 => .ok ([], b2))))
  else if tk_k t N b = 277 then (if 6 ≤ d then .error (4, tk_s t N b) else pp_sq (rc 2 (d + 1) (tk_e t N b)) (fun b1 => .ok ([12], b1)))
  else if tk_k t N b = 278 then .ok ([13], tk_e t N b)
  else pp_sq (rc 3 d b) (fun b1 => match pp_sg (tk_k t N b1) with
    | none => .error (1, tk_s t N b1)
    | some o => pp_sq (rc 3 d (tk_e t N b1)) (fun b2 => .ok ([o], b2)))
def pp_mm (t : Nat → Nat) (N : Nat) (rc : Nat → Nat → Nat → tR) (d b o : Nat) : tR :=
  if tk_k t N b = 40 then (if 6 ≤ d then .error (4, tk_s t N b) else pp_sq (rc 3 (d + 1) (tk_e t N b)) (fun b1 => pp_exp t N 44 b1 (fun b2 => pp_sq (rc 3 (d + 1) b2) (fun b3 => pp_exp t N 41 b3 (fun b4 => .ok ([o], b4))))))
  else .error (1, tk_s t N b)
def pp_part (t : Nat → Nat) (N use : Nat) (rc : Nat → Nat → Nat → tR) (d b : Nat) : tR :=
  if tk_k t N b = 40 then (if 6 ≤ d then .error (4, tk_s t N b) else pp_sq (rc 3 (d + 1) (tk_e t N b)) (fun b1 => pp_exp t N 41 b1 (fun b2 => .ok ([], b2))))
  else if tk_k t N b = 279 then pp_mm t N rc d (tk_e t N b) 5
  else if tk_k t N b = 280 then pp_mm t N rc d (tk_e t N b) 6
  else if tk_k t N b = 300 then (match tk_num t N 0 10000 b with
    | .error e => .error e
    | .ok r => .ok ([1000 + r.1], r.2))
  else if use = 3 ∧ (tk_k t N b = 271 ∨ tk_k t N b = 265) then (if 6 ≤ d then .error (4, tk_s t N b) else pp_sq (rc 5 (d + 1) (tk_e t N b)) (fun b1 => .ok ([if tk_k t N b = 271 then 60 else 61], b1)))
  else match pp_var (tk_k t N b) use with
    | none => .error (1, tk_s t N b)
    | some v => .ok ([40 + v], tk_e t N b)
def pp_st (t : Nat → Nat) (N use : Nat) (rc : Nat → Nat → Nat → tR) (g d b : Nat) : tR :=
  if g = 0 then pl_loop t N (rc 1 d) pp_o0 (N + 1) [] b else if g = 1 then pl_loop t N (rc 2 d) pp_o1 (N + 1) [] b
  else if g = 2 then pp_fact t N rc d b else if g = 3 then pl_loop t N (rc 4 d) pp_o3 (N + 1) [] b else if g = 4 then pl_loop t N (rc 5 d) pp_o4 (N + 1) [] b
  else pp_part t N use rc d b
def pp (t : Nat → Nat) (N use : Nat) : Nat → Nat → Nat → Nat → tR
  | 0, _, _, _ => .error (9, 9)
  | k + 1, g, d, b => pp_st t N use (fun g d b => pp t N use k g d b) g d b
/-- how deep one goes -/
def pp_nd (g d : Nat) : Nat := 6 - g + 6 * (6 - d)
/-! the class -/
def px_isC (co : Nat) : Prop := co = 4 ∨ co = 15 ∨ co = 28
theorem px_isC.sh {co : Nat} (h : px_isC co) : sw_isO sw_gX co 0 = true ∧ sw_isA sw_gX (co + 1) 0 = true ∧ (sw_isA sw_gX (co + 1) 0 || sw_isA sw_gX (co + 1) 1 || sw_isA sw_gX (co + 1) 2 || sw_isA sw_gX (co + 1) 3) = true ∧ sw_ln sw_gX (co + 1) = 1608 := by
  rcases h with rfl | rfl | rfl <;> (refine ⟨?_, ?_, ?_, ?_⟩ <;> decide +kernel)
theorem px_emit {σ : sw_St} {co n0 : Nat} {x : Int32} (hc : px_isC co) (h : σ.1 co 1 = nI n0) (hn : n0 < 1608) : F_X0_emit σ co x = some ((), sw_uI (sw_uI σ (co + 1) n0 x) co 1 (nI (n0 + 1))) := by
  obtain ⟨s1, s2, s3, s4⟩ := hc.sh
  unfold F_X0_emit S_X0_emit_32
  simp only [if_pos s1, if_pos s2, if_pos s3, s4, h]
  rw [if_neg (nI_ge hn (by omega)), if_pos (pz_inb hn (by omega)), nI_clamp (by omega), pz_Io (by omega), h, nI_1]
def px_po (co : Nat) (σ σ' : sw_St) : Prop := pz_sm [2, co, co + 1] σ σ' ∧ σ'.2.2 2 = σ.2.2 2
theorem px_po.refl (co : Nat) (σ : sw_St) : px_po co σ σ := ⟨pz_sm.refl _ _, rfl⟩
theorem px_po.trans {co : Nat} {σ σ1 σ2 : sw_St} (h : px_po co σ σ1) (g : px_po co σ1 σ2) : px_po co σ σ2 := ⟨h.1.trans g.1, g.2.trans h.2⟩
theorem px_af.po {σ σ' : sw_St} (co : Nat) (h : px_af σ σ') : px_po co σ σ' := ⟨h.1.mono (by simp), h.2.2.2.2⟩
theorem px_ff.po {σ σ' : sw_St} {kd pl : Nat} (co : Nat) (h : px_ff σ σ' kd pl) : px_po co σ σ' := ⟨h.1.mono (by simp), h.2.2.2⟩
theorem px_po.r32 {co : Nat} {σ σ' : sw_St} (hc : px_isC co) (h : px_po co σ σ') (k : Nat) : σ'.1 32 k = σ.1 32 k ∧ σ'.2.2 32 k = σ.2.2 32 k := by
  have n : 32 ∉ [2, co, co + 1] := by unfold px_isC at hc; simp; omega
  exact ⟨h.1.r n k, h.1.rR n k⟩
def px_cs (σ : sw_St) (co n0 : Nat) (C : List Nat) (σ0 : sw_St) : Prop := σ.1 co 1 = nI (n0 + C.length) ∧ (∀ i, i < C.length → σ.1 (co + 1) (n0 + i) = nI (px_xc (C.getD i 0))) ∧ ∀ i, i < n0 → σ.1 (co + 1) i = σ0.1 (co + 1) i
theorem px_cs.app {σ0 σ1 σ2 : sw_St} {co n0 : Nat} {C C2 : List Nat} (h : px_cs σ1 co n0 C σ0) (g : px_cs σ2 co (n0 + C.length) C2 σ1) : px_cs σ2 co n0 (C ++ C2) σ0 := by
  obtain ⟨a1, a2, a3⟩ := h
  obtain ⟨c1, c2, c3⟩ := g
  refine ⟨by rw [c1, List.length_append, Nat.add_assoc], fun i hi => ?_, fun i hi => by rw [c3 i (by omega)]; exact a3 i hi⟩
  rw [List.length_append] at hi
  by_cases e : i < C.length
  · rw [c3 _ (by omega), a2 i e, List.getD_eq_getElem?_getD, List.getD_eq_getElem?_getD, List.getElem?_append_left e]
  · have := c2 (i - C.length) (by omega)
    rw [show n0 + C.length + (i - C.length) = n0 + i by omega] at this
    rw [this, List.getD_eq_getElem?_getD, List.getD_eq_getElem?_getD, List.getElem?_append_right (by omega)]
theorem px_cs.mv {σ0 σ1 σ2 : sw_St} {co n0 : Nat} {C : List Nat} (hc : px_isC co) (h : px_cs σ1 co n0 C σ0) (m : px_af σ1 σ2) : px_cs σ2 co n0 C σ0 := by
  have n1 : co ∉ [2] := by unfold px_isC at hc; simp; omega
  have n2 : co + 1 ∉ [2] := by unfold px_isC at hc; simp; omega
  obtain ⟨a1, a2, a3⟩ := h
  exact ⟨by rw [m.1.r n1]; exact a1, fun i hi => by rw [m.1.r n2]; exact a2 i hi, fun i hi => by rw [m.1.r n2]; exact a3 i hi⟩
theorem px_cs.pre {σ σ1 σ2 : sw_St} {co n0 : Nat} {C : List Nat} (hc : px_isC co) (h : px_cs σ2 co n0 C σ1) (m : px_af σ σ1) : px_cs σ2 co n0 C σ := by
  have n2 : co + 1 ∉ [2] := by unfold px_isC at hc; simp; omega
  exact ⟨h.1, h.2.1, fun i hi => by rw [h.2.2 i hi, m.1.r n2]⟩
theorem px_cs.nil {σ : sw_St} {co n0 : Nat} (h : σ.1 co 1 = nI n0) : px_cs σ co n0 [] σ := ⟨h, fun i hi => by simp at hi, fun _ _ => rfl⟩
/-- one more code -/
theorem px_em1 {σ : sw_St} {t : Nat → Nat} {N b co n0 o : Nat} (hc : px_isC co) (h : px_rs σ t N b) (h1 : σ.1 co 1 = nI n0) (hn : n0 < 1608) : ∃ σ', F_X0_emit σ co (nI (px_xc o)) = some ((), σ') ∧ px_rs σ' t N b ∧ px_po co σ σ' ∧ (σ'.1 2 5 = σ.1 2 5 ∧ σ'.1 2 6 = σ.1 2 6) ∧ px_cs σ' co n0 [o] σ := by
  have c1 : co ≠ 1 ∧ co + 1 ≠ 1 ∧ co ≠ 2 ∧ co + 1 ≠ 2 := by unfold px_isC at hc; omega
  have m : pz_sm [co, co + 1] σ (sw_uI (sw_uI σ (co + 1) n0 (nI (px_xc o))) co 1 (nI (n0 + 1))) := ((pz_sm.refl _ σ).I (by simp) _ _).I (by simp) _ _
  have n1 : 1 ∉ [co, co + 1] := by simp; omega
  have n2 : 2 ∉ [co, co + 1] := by simp; omega
  refine ⟨_, px_emit hc h1 hn, ⟨⟨by rw [m.rR n2]; exact h.1.1, fun i hi => by rw [m.r n1]; exact h.1.2.1 i hi, by rw [m.r n2]; exact h.1.2.2⟩, by rw [m.r n2]; exact h.2.1, by rw [m.r n2]; exact h.2.2.1, by rw [m.r n2]; exact h.2.2.2⟩, ⟨m.mono (by simp), (m 2 n2).2.2⟩, ⟨m.r n2 5, m.r n2 6⟩, pz_Ie rfl rfl, fun i hi => ?_, fun i hi => ?_⟩
  · have : i = 0 := by simp at hi; exact hi
    rw [this, pz_Io (by omega), pz_Ie rfl (by omega)]
    rfl
  · rw [pz_Io (by omega), pz_Ik (by omega)]
/-- what reading a piece does -/
def px_cp (f : sw_St → Option (Int32 × sw_St)) (t : Nat → Nat) (N co use m z b : Nat) (r : tR) : Prop := ∀ (σ : sw_St) (n0 : Nat), px_rs σ t N b → σ.1 32 3 = nI use → σ.2.2 32 2 = some co → σ.1 co 1 = nI n0 → n0 + m ≤ b + 5 →
    (∀ q, r = .ok q → ∃ σ', f σ = some (1, σ') ∧ px_rs σ' t N q.2 ∧ px_po co σ σ' ∧ (σ'.1 2 5 = σ.1 2 5 ∧ σ'.1 2 6 = σ.1 2 6) ∧ px_cs σ' co n0 q.1 σ ∧ b + z ≤ q.2 ∧ q.2 ≤ N ∧ q.1.length + b ≤ q.2 + m) ∧
    (∀ e, r = .error e → ∃ σ', f σ = some (0, σ') ∧ px_po co σ σ' ∧ σ'.1 2 5 = nI e.1 ∧ σ'.1 2 6 = nI e.2)
theorem pp_bd_ok {r : tR} {f : List Nat → Nat → tR} {q : List Nat × Nat} (h : pp_bd r f = .ok q) : ∃ q1, r = .ok q1 ∧ f q1.1 q1.2 = .ok q := by
  cases r with
  | error e => cases h
  | ok q1 => exact ⟨q1, rfl, h⟩
theorem pp_bd_er {r : tR} {f : List Nat → Nat → tR} {e : Nat × Nat} (h : pp_bd r f = .error e) : r = .error e ∨ ∃ q1, r = .ok q1 ∧ f q1.1 q1.2 = .error e := by
  cases r with
  | error e1 => exact Or.inl h
  | ok q1 => exact Or.inr ⟨q1, rfl, h⟩
theorem pp_ap_ok {C : List Nat} {r : tR} {q : List Nat × Nat} (h : pp_ap C r = .ok q) : ∃ C2, r = .ok (C2, q.2) ∧ q.1 = C ++ C2 := by
  obtain ⟨q1, e1, e2⟩ := pp_bd_ok h
  have e3 := Except.ok.inj e2
  exact ⟨q1.1, by rw [e1, ← e3], by rw [← e3]⟩
theorem pp_ap_er {C : List Nat} {r : tR} {e : Nat × Nat} (h : pp_ap C r = .error e) : r = .error e := by
  rcases pp_bd_er h with e1 | ⟨q1, e1, e2⟩
  · exact e1
  · cases e2
/-- a piece, then another -/
theorem px_cp.sq {f F : sw_St → Option (Int32 × sw_St)} {G : Nat → sw_St → Option (Int32 × sw_St)} {t : Nat → Nat} {N co use m z z2 b : Nat} {r : tR} {k : Nat → tR} (hc : px_isC co) (h : px_cp f t N co use 0 z b r) (hF0 : ∀ σ σ', px_rs σ t N b → f σ = some (0, σ') → F σ = some (0, σ')) (hF1 : ∀ σ σ' b1, px_rs σ t N b → b1 ≤ N → b ≤ b1 → px_rs σ' t N b1 → σ'.1 32 3 = nI use → σ'.2.2 32 2 = some co → f σ = some (1, σ') → F σ = G b1 σ') (hG : ∀ b1, b + z ≤ b1 → b1 ≤ N → px_cp (G b1) t N co use m z2 b1 (k b1)) : px_cp F t N co use m z b (pp_sq r k) := by
  intro σ n0 h1 h2 h3 h4 h5
  obtain ⟨a1, a2⟩ := h σ n0 h1 h2 h3 h4 (by omega)
  constructor
  · intro q hq
    obtain ⟨q1, e1, e2⟩ := pp_bd_ok hq
    obtain ⟨C2, e3, e4⟩ := pp_ap_ok e2
    obtain ⟨σ1, p1, p2, p3, p4, p5, p6, p7, p8⟩ := a1 q1 e1
    have s3 : σ1.1 32 3 = nI use := by rw [(p3.r32 hc 3).1]; exact h2
    have s2 : σ1.2.2 32 2 = some co := by rw [(p3.r32 hc 2).2]; exact h3
    obtain ⟨σ2, c1, c2, c3, c4, c5, c6, c7, c8⟩ := (hG q1.2 p6 p7 σ1 (n0 + q1.1.length) p2 s3 s2 p5.1 (by omega)).1 _ e3
    refine ⟨σ2, by rw [hF1 σ σ1 q1.2 h1 p7 (by omega) p2 s3 s2 p1]; exact c1, c2, p3.trans c3, ⟨by rw [c4.1]; exact p4.1, by rw [c4.2]; exact p4.2⟩, by rw [e4]; exact p5.app c5, ?_, c7, ?_⟩
    · have : q1.2 + z2 ≤ q.2 := c6
      omega
    · have : C2.length + q1.2 ≤ q.2 + m := c8
      rw [e4, List.length_append]
      omega
  · intro e he
    rcases pp_bd_er he with e1 | ⟨q1, e1, e2⟩
    · obtain ⟨σ1, p1, p2⟩ := a2 e e1
      exact ⟨σ1, hF0 σ σ1 h1 p1, p2⟩
    · obtain ⟨σ1, p1, p2, p3, p4, p5, p6, p7, p8⟩ := a1 q1 e1
      have s3 : σ1.1 32 3 = nI use := by rw [(p3.r32 hc 3).1]; exact h2
      have s2 : σ1.2.2 32 2 = some co := by rw [(p3.r32 hc 2).2]; exact h3
      obtain ⟨σ2, c1, c2, c3⟩ := (hG q1.2 p6 p7 σ1 (n0 + q1.1.length) p2 s3 s2 p5.1 (by omega)).2 e (pp_ap_er e2)
      exact ⟨σ2, by rw [hF1 σ σ1 q1.2 h1 p7 (by omega) p2 s3 s2 p1]; exact c1, p3.trans c2, c3⟩
theorem tk_e_gt {t : Nat → Nat} {N b : Nat} (hb : b ≤ N) (h : tk_k t N b ≠ 301) : b < tk_e t N b ∧ tk_s t N b < N := by
  have h1 := tk_s_sp t hb
  have h2 := tk_e_sp t hb
  have c : tk_s t N b < N := Classical.byContradiction fun y => h (by unfold tk_k; rw [if_neg y])
  omega
/-- one token on, then a piece -/
theorem px_cp.ad {F G : sw_St → Option (Int32 × sw_St)} {t : Nat → Nat} {N co use m z b : Nat} {r : tR} (hc : px_isC co) (hb : b ≤ N) (hk : tk_k t N b ≠ 301) (hF : ∀ σ, px_rs σ t N b → ∃ σ1, px_rs σ1 t N (tk_e t N b) ∧ px_af σ σ1 ∧ F σ = G σ1) (h : px_cp G t N co use (m + 1) z (tk_e t N b) r) : px_cp F t N co use m 1 b r := by
  intro σ n0 h1 h2 h3 h4 h5
  obtain ⟨σ1, p1, p2, p3⟩ := hF σ h1
  have hg := tk_e_gt hb hk
  have po := p2.po co
  have n1 : co ∉ [2] := by unfold px_isC at hc; simp; omega
  obtain ⟨a1, a2⟩ := h σ1 n0 p1 (by rw [(po.r32 hc 3).1]; exact h2) (by rw [(po.r32 hc 2).2]; exact h3) (by rw [p2.1.r n1]; exact h4) (by omega)
  constructor
  · intro q hq
    obtain ⟨σ2, c1, c2, c3, c4, c5, c6, c7, c8⟩ := a1 q hq
    exact ⟨σ2, by rw [p3]; exact c1, c2, po.trans c3, ⟨by rw [c4.1]; exact p2.2.2.1, by rw [c4.2]; exact p2.2.2.2.1⟩, c5.pre hc p2, by omega, c7, by omega⟩
  · intro e he
    obtain ⟨σ2, c1, c2, c3⟩ := a2 e he
    exact ⟨σ2, by rw [p3]; exact c1, po.trans c2, c3⟩
theorem px_cp.er {F : sw_St → Option (Int32 × sw_St)} {t : Nat → Nat} {N co use m z b kd pl : Nat} (hF : ∀ σ, px_rs σ t N b → ∃ σ1, F σ = some (0, σ1) ∧ px_ff σ σ1 kd pl) : px_cp F t N co use m z b (.error (kd, pl)) := by
  intro σ n0 h1 h2 h3 h4 h5
  constructor
  · intro q hq
    cases hq
  · intro e he
    obtain ⟨σ1, p1, p2⟩ := hF σ h1
    rw [← Except.error.inj he]
    exact ⟨σ1, p1, p2.po co, p2.2.1, p2.2.2.1⟩
theorem px_cp.nl {F : sw_St → Option (Int32 × sw_St)} {t : Nat → Nat} {N co use m b : Nat} (hb : b ≤ N) (hF : ∀ σ, px_rs σ t N b → F σ = some (1, σ)) : px_cp F t N co use m 0 b (.ok ([], b)) := by
  intro σ n0 h1 h2 h3 h4 h5
  constructor
  · intro q hq
    rw [← Except.ok.inj hq]
    exact ⟨σ, hF σ h1, h1, px_po.refl _ _, ⟨rfl, rfl⟩, px_cs.nil h4, by (try dsimp only); omega, hb, by simp⟩
  · intro e he
    cases he
theorem px_cp.em {F G : sw_St → Option (Int32 × sw_St)} {t : Nat → Nat} {N co use m z b o : Nat} {r : tR} (hc : px_isC co) (hN : N ≤ 1600) (hb : b ≤ N) (hF : ∀ σ σ', px_rs σ t N b → σ.2.2 32 2 = some co → F_X0_emit σ co (nI (px_xc o)) = some ((), σ') → F σ = G σ') (h : px_cp G t N co use m z b r) : px_cp F t N co use (m + 1) z b (pp_ap [o] r) := by
  intro σ n0 h1 h2 h3 h4 h5
  obtain ⟨σ1, p1, p2, p3, p4, p5⟩ := px_em1 (o := o) hc h1 h4 (by omega)
  obtain ⟨a1, a2⟩ := h σ1 (n0 + 1) p2 (by rw [(p3.r32 hc 3).1]; exact h2) (by rw [(p3.r32 hc 2).2]; exact h3) p5.1 (by omega)
  constructor
  · intro q hq
    obtain ⟨C2, e3, e4⟩ := pp_ap_ok hq
    obtain ⟨σ2, c1, c2, c3, c4, c5, c6, c7, c8⟩ := a1 _ e3
    refine ⟨σ2, by rw [hF σ σ1 h1 h3 p1]; exact c1, c2, p3.trans c3, ⟨by rw [c4.1]; exact p4.1, by rw [c4.2]; exact p4.2⟩, by rw [e4]; exact p5.app c5, c6, c7, ?_⟩
    have : C2.length + b ≤ q.2 + m := c8
    rw [e4, List.length_append]
    simp only [List.length_cons, List.length_nil]
    omega
  · intro e he
    obtain ⟨σ2, c1, c2, c3⟩ := a2 e (pp_ap_er he)
    exact ⟨σ2, by rw [hF σ σ1 h1 h3 p1]; exact c1, p3.trans c2, c3⟩
theorem px_cp.w {F : sw_St → Option (Int32 × sw_St)} {t : Nat → Nat} {N co use m m2 z z2 b : Nat} {r : tR} (h : px_cp F t N co use m z b r) (hm : m ≤ m2) (hz : z2 ≤ z) : px_cp F t N co use m2 z2 b r := by
  intro σ n0 h1 h2 h3 h4 h5
  obtain ⟨a1, a2⟩ := h σ n0 h1 h2 h3 h4 (by omega)
  refine ⟨fun q hq => ?_, a2⟩
  obtain ⟨σ2, c1, c2, c3, c4, c5, c6, c7, c8⟩ := a1 q hq
  exact ⟨σ2, c1, c2, c3, c4, c5, by omega, c7, by omega⟩
theorem pp_ap_nil (r : tR) : pp_ap [] r = r := by
  cases r with
  | error e => rfl
  | ok q => rfl
/-- a token is asked, then a piece -/
theorem px_cp.ex {F G : sw_St → Option (Int32 × sw_St)} {t : Nat → Nat} {N co use m z b kd : Nat} {k : Nat → tR} (hc : px_isC co) (ht : ∀ i, t i < 256) (hN : N ≤ 1600) (hb : b ≤ N) (hkd : kd ≤ 302) (hk1 : kd ≠ 301) (hF0 : ∀ σ σ', F_X6_expect σ (nI kd) = some (0, σ') → F σ = some (0, σ')) (hF1 : ∀ σ σ', F_X6_expect σ (nI kd) = some (1, σ') → F σ = G σ') (h : px_cp G t N co use (m + 1) z (tk_e t N b) (k (tk_e t N b))) : px_cp F t N co use m 1 b (pp_exp t N kd b k) := by
  unfold pp_exp
  by_cases c : tk_k t N b = kd
  · rw [if_pos c]
    refine px_cp.ad hc hb (by omega) (fun σ h1 => ?_) h
    obtain ⟨σ', p1, -⟩ := px_expect h1 ht hN hb hkd
    obtain ⟨q1, q2, q3⟩ := p1 c
    exact ⟨σ', q2, q3, hF1 σ σ' q1⟩
  · rw [if_neg c]
    refine px_cp.er (fun σ h1 => ?_)
    obtain ⟨σ', -, p2⟩ := px_expect h1 ht hN hb hkd
    obtain ⟨q1, q2⟩ := p2 c
    exact ⟨σ', hF0 σ σ' q1, q2⟩
theorem px_var {σ : sw_St} {kd use : Nat} (hk : kd ≤ 302) (hu : use ≤ 3) : F_X3_variableOf σ (nI kd) (nI use) = some (oI (pp_var kd use), σ) := by
  have u4 : use = 0 ∨ use = 1 ∨ use = 2 ∨ use = 3 := by omega
  have key : kd = 257 ∨ kd = 258 ∨ kd = 259 ∨ kd = 260 ∨ kd = 261 ∨ kd = 262 ∨ kd = 263 ∨ kd = 264 ∨ kd = 265 ∨ kd = 266 ∨ kd = 267 ∨ kd = 268 ∨ kd = 269 ∨ kd = 270 ∨ kd = 271 ∨ kd = 272 ∨ kd = 273 ∨ kd = 274 ∨ (kd < 257 ∨ 274 < kd) := by omega
  rcases key with rfl | rfl | rfl | rfl | rfl | rfl | rfl | rfl | rfl | rfl | rfl | rfl | rfl | rfl | rfl | rfl | rfl | rfl | hh
  · rcases u4 with rfl | rfl | rfl | rfl <;> rfl
  · rcases u4 with rfl | rfl | rfl | rfl <;> rfl
  · rcases u4 with rfl | rfl | rfl | rfl <;> rfl
  · rcases u4 with rfl | rfl | rfl | rfl <;> rfl
  · rcases u4 with rfl | rfl | rfl | rfl <;> rfl
  · rcases u4 with rfl | rfl | rfl | rfl <;> rfl
  · rcases u4 with rfl | rfl | rfl | rfl <;> rfl
  · rcases u4 with rfl | rfl | rfl | rfl <;> rfl
  · rcases u4 with rfl | rfl | rfl | rfl <;> rfl
  · rcases u4 with rfl | rfl | rfl | rfl <;> rfl
  · rcases u4 with rfl | rfl | rfl | rfl <;> rfl
  · rcases u4 with rfl | rfl | rfl | rfl <;> rfl
  · rcases u4 with rfl | rfl | rfl | rfl <;> rfl
  · rcases u4 with rfl | rfl | rfl | rfl <;> rfl
  · rcases u4 with rfl | rfl | rfl | rfl <;> rfl
  · rcases u4 with rfl | rfl | rfl | rfl <;> rfl
  · rcases u4 with rfl | rfl | rfl | rfl <;> rfl
  · rcases u4 with rfl | rfl | rfl | rfl <;> rfl
  · have n : ∀ c, 257 ≤ c → c ≤ 274 → ¬ nI kd = nI c := fun c h1 h2 y => by
      rw [nI_eq (by omega) (by omega)] at y
      omega
    unfold F_X3_variableOf S_X3_variableOf_192 pp_var
    rw [if_neg (show ¬ nI kd = (257 : Int32) from n 257 (by omega) (by omega)), if_neg (show ¬ nI kd = (258 : Int32) from n 258 (by omega) (by omega)), if_neg (show ¬ nI kd = (259 : Int32) from n 259 (by omega) (by omega)), if_neg (show ¬ nI kd = (260 : Int32) from n 260 (by omega) (by omega)), if_neg (show ¬ nI kd = (261 : Int32) from n 261 (by omega) (by omega)), if_neg (show ¬ nI kd = (262 : Int32) from n 262 (by omega) (by omega)), if_neg (show ¬ nI kd = (263 : Int32) from n 263 (by omega) (by omega)), if_neg (show ¬ nI kd = (264 : Int32) from n 264 (by omega) (by omega)), if_neg (show ¬ nI kd = (265 : Int32) from n 265 (by omega) (by omega)), if_neg (show ¬ nI kd = (266 : Int32) from n 266 (by omega) (by omega)), if_neg (show ¬ nI kd = (267 : Int32) from n 267 (by omega) (by omega)), if_neg (show ¬ nI kd = (268 : Int32) from n 268 (by omega) (by omega)), if_neg (show ¬ nI kd = (269 : Int32) from n 269 (by omega) (by omega)), if_neg (show ¬ nI kd = (270 : Int32) from n 270 (by omega) (by omega)), if_neg (show ¬ nI kd = (271 : Int32) from n 271 (by omega) (by omega)), if_neg (show ¬ nI kd = (272 : Int32) from n 272 (by omega) (by omega)), if_neg (show ¬ nI kd = (273 : Int32) from n 273 (by omega) (by omega)), if_neg (show ¬ nI kd = (274 : Int32) from n 274 (by omega) (by omega))]
    rw [if_neg (show ¬ kd = 264 by omega), if_neg (show ¬ kd = 269 by omega), if_neg (show ¬ kd = 270 by omega), if_neg (show ¬ kd = 257 by omega), if_neg (show ¬ kd = 271 by omega), if_neg (show ¬ kd = 260 by omega), if_neg (show ¬ kd = 272 by omega), if_neg (show ¬ kd = 273 by omega), if_neg (show ¬ kd = 274 by omega), if_neg (show ¬ kd = 263 by omega)]
    rfl

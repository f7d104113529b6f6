/-! An upland's text, pure. -/
abbrev g_U : Type := (Nat → Nat → Nat) × (Nat → List Nat) × g_N × Nat × Nat
def ub {α β : Type} (r : Except (Nat × Nat) α) (f : α → Except (Nat × Nat) β) : Except (Nat × Nat) β := match r with
  | .error e => .error e
  | .ok q => f q
abbrev uR : Type := Except (Nat × Nat) (g_U × Nat)
def pu_exp {β : Type} (t : Nat → Nat) (N kd b : Nat) (k : Nat → Except (Nat × Nat) β) : Except (Nat × Nat) β := if tk_k t N b = kd then k (tk_e t N b) else .error (1, tk_s t N b)
/-- the first of n from i on -/
def g_fi (p : Nat → Bool) : Nat → Nat → Option Nat
  | 0, _ => none
  | n + 1, i => if p i = true then some i else g_fi p n (i + 1)
theorem g_fi_some {p : Nat → Bool} : ∀ {n i f : Nat}, g_fi p n i = some f → i ≤ f ∧ f < i + n ∧ p f = true
  | 0, i, f, h => by cases h
  | n + 1, i, f, h => by
    unfold g_fi at h
    by_cases c : p i = true
    · rw [if_pos c] at h
      have e := Option.some.inj h
      rw [← e]
      exact ⟨by omega, by omega, c⟩
    · rw [if_neg c] at h
      have := g_fi_some h
      exact ⟨by omega, by omega, this.2.2⟩
theorem g_fi_none {p : Nat → Bool} : ∀ {n i : Nat}, g_fi p n i = none → ∀ f, i ≤ f → f < i + n → p f = false
  | 0, i, h, f, h1, h2 => by omega
  | n + 1, i, h, f, h1, h2 => by
    unfold g_fi at h
    by_cases c : p i = true
    · rw [if_pos c] at h
      cases h
    · rw [if_neg c] at h
      by_cases e : f = i
      · rw [e]
        simpa using c
      · exact g_fi_none h f (by omega) (by omega)
def tk_nm (t : Nat → Nat) (s n : Nat) : List Nat := (List.range n).map (fun i => t (s + i) - 96)
/-- a name and the place behind it -/
def tk_name (t : Nat → Nat) (N b : Nat) : Except (Nat × Nat) (List Nat × Nat) := if 281 ≤ tk_k t N b ∧ tk_k t N b ≤ 287 then (if tk_e t N b - tk_s t N b ≤ 6 then .ok (tk_nm t (tk_s t N b) (tk_e t N b - tk_s t N b), tk_e t N b) else .error (1, tk_s t N b + 6)) else .error (1, tk_s t N b)
def g_fn (nm : Nat → List Nat) (v : List Nat) (n : Nat) : Option Nat := g_fi (fun f => decide (nm f = v)) n 0
def pu_new (t : Nat → Nat) (N : Nat) (u : g_U) (b : Nat) : Except (Nat × Nat) (List Nat × Nat) := ub (tk_name t N b) (fun r => if g_fn (u.2.2.1 0) r.1 (u.1 0 0) = none ∧ g_fn (u.2.2.1 1) r.1 (u.1 0 2) = none then .ok r else .error (3, tk_s t N b))
def pu_kf (oth : Option Nat) (pl b2 : Nat) : Option Nat → Except (Nat × Nat) (Nat × Nat)
  | none => .error (3, pl)
  | some f => if oth = some f then .error (3, pl) else .ok (f, b2)
def pu_kn (t : Nat → Nat) (N : Nat) (u : g_U) (oth : Option Nat) (b : Nat) : Except (Nat × Nat) (Nat × Nat) := ub (tk_name t N b) (fun r => pu_kf oth (tk_s t N b) r.2 (g_fn (u.2.2.1 0) r.1 (u.1 0 0)))
def u_f (u : g_U) (v : List Nat) (x : Nat) : g_U := (fun i j => if i = 0 ∧ j = 0 then u.1 0 0 + 1 else if i = 1 ∧ j = u.1 0 0 then x else u.1 i j, u.2.1, fun i j => if i = 0 ∧ j = u.1 0 0 then v else u.2.2.1 i j, u.2.2.2.1, u.2.2.2.2)
def u_g (u : g_U) (a c m : Nat) : g_U := (fun i j => if i = 0 ∧ j = 1 then u.1 0 1 + 1 else if i = 2 ∧ j = 3 * u.1 0 1 then a else if i = 2 ∧ j = 3 * u.1 0 1 + 1 then c else if i = 2 ∧ j = 3 * u.1 0 1 + 2 then m else u.1 i j, u.2.1, u.2.2.1, u.2.2.2.1 ||| 2 ^ u.1 0 1, u.2.2.2.2)
def u_s (u : g_U) (v : List Nat) (h c : Nat) : g_U := (fun i j => if i = 0 ∧ j = 2 then u.1 0 2 + 1 else if i = 3 ∧ j = 2 * u.1 0 2 then h else if i = 3 ∧ j = 2 * u.1 0 2 + 1 then c else u.1 i j, u.2.1, fun i j => if i = 1 ∧ j = u.1 0 2 then v else u.2.2.1 i j, u.2.2.2.1, u.2.2.2.2)
def u_o (u : g_U) (k : Nat) : g_U := (u.1, u.2.1, u.2.2.1, u.2.2.2.1 ^^^ 2 ^ k, u.2.2.2.2)
def u_c (u : g_U) (j : Nat) (C : List Nat) : g_U := (u.1, fun i => if i = j then C else u.2.1 i, u.2.2.1, u.2.2.2.1, u.2.2.2.2 ||| 2 ^ j)
def u_w (u : g_U) (x : Nat) : g_U := (fun i j => if i = 0 ∧ j = 3 then x else u.1 i j, u.2.1, u.2.2.1, u.2.2.2.1, u.2.2.2.2)
def u_0 : g_U := (fun _ _ => 0, g_def, fun _ _ => [], 0, 0)
def pu_field (t : Nat → Nat) (N : Nat) (u : g_U) (b : Nat) : uR := if u.1 0 0 < 8 then ub (pu_new t N u (tk_e t N b)) (fun r1 => pu_exp t N 257 r1.2 (fun b2 => ub (tk_num t N 0 10 b2) (fun r3 => .ok (u_f u r1.1 r3.1, r3.2)))) else .error (5, tk_s t N b)
def pu_gap (t : Nat → Nat) (N : Nat) (u : g_U) (b : Nat) : uR := if u.1 0 1 < 10 then ub (pu_kn t N u none (tk_e t N b)) (fun r1 => pu_exp t N 259 r1.2 (fun b2 => ub (pu_kn t N u (some r1.1) b2) (fun r3 => pu_exp t N 260 r3.2 (fun b4 => ub (tk_num t N 1 10 b4) (fun r5 => .ok (u_g u r1.1 r3.1 r5.1, r5.2)))))) else .error (5, tk_s t N b)
def pu_shut (t : Nat → Nat) (N : Nat) (u : g_U) (b : Nat) : uR := ub (tk_num t N 0 (u.1 0 1) (tk_e t N b)) (fun r => if u.2.2.2.1.testBit r.1 = true then .ok (u_o u r.1, r.2) else .error (2, tk_s t N (tk_e t N b)))
def pu_sheep (t : Nat → Nat) (N : Nat) (u : g_U) (b : Nat) : uR := if u.1 0 2 < 6 then ub (pu_new t N u (tk_e t N b)) (fun r1 => pu_exp t N 263 r1.2 (fun b2 => ub (pu_kn t N u none b2) (fun r3 => pu_exp t N 264 r3.2 (fun b4 => ub (tk_num t N 0 10 b4) (fun r5 => .ok (u_s u r1.1 r3.1 r5.1, r5.2)))))) else .error (5, tk_s t N b)
def pu_gj (j : Nat) : Nat := if j = 1 then 0 else 3
def pu_codes (t : Nat → Nat) (N : Nat) (u : g_U) (j b : Nat) : uR := if u.2.2.2.2.testBit j = true then .error (5, tk_s t N b) else ub (pp t N j sw_depth (pu_gj j) 0 (tk_e t N b)) (fun q => .ok (u_c u j q.1, q.2))
def pu_storm (t : Nat → Nat) (N : Nat) (u : g_U) (b : Nat) : uR := ub (tk_num t N 0 101 (tk_e t N b)) (fun r => .ok (u_w u r.1, r.2))
def pu_st (t : Nat → Nat) (N : Nat) (u : g_U) (b : Nat) : uR :=
  if tk_k t N b = 256 then pu_field t N u b else if tk_k t N b = 258 then pu_gap t N u b else if tk_k t N b = 261 then pu_shut t N u b else if tk_k t N b = 262 then pu_sheep t N u b
  else if tk_k t N b = 265 then pu_codes t N u 0 b else if tk_k t N b = 266 then pu_codes t N u 1 b else if tk_k t N b = 267 then pu_codes t N u 2 b else if tk_k t N b = 268 then pu_storm t N u b else .error (1, tk_s t N b)
def pu_all (t : Nat → Nat) (N : Nat) : Nat → g_U → Nat → Nat → Except (Nat × Nat) (g_U × Nat)
  | 0, _, _, _ => .error (9, 9)
  | k + 1, u, c, b => if tk_k t N b = 301 then .ok (u, c) else if c = 60 then .error (5, tk_s t N b) else ub (pu_st t N u b) (fun q => pu_exp t N 59 q.2 (fun b2 => pu_all t N k q.1 (c + 1) b2))
/-! names -/
theorem tk_281 {t : Nat → Nat} {N b : Nat} (ht : ∀ i, t i < 256) (h : 281 ≤ tk_k t N b ∧ tk_k t N b ≤ 287) : tk_s t N b < N ∧ tk_le t (tk_s t N b) = true ∧ tk_e t N b = tk_w (tk_le t) N (tk_s t N b) ∧ tk_gl t b (tk_s t N b) = false := by
  have h256 := ht (tk_s t N b)
  unfold tk_k at h
  by_cases c : tk_s t N b < N
  · rw [if_pos c] at h
    by_cases c1 : tk_le t (tk_s t N b) = true
    · rw [if_pos c1] at h
      refine ⟨c, c1, by unfold tk_e; rw [if_pos c, if_pos c1], ?_⟩
      cases e : tk_gl t b (tk_s t N b)
      · rfl
      · rw [e, if_pos rfl] at h
        omega
    · rw [if_neg c1] at h
      exfalso
      by_cases c2 : tk_di t (tk_s t N b) = true
      · rw [if_pos c2] at h
        split at h <;> omega
      · rw [if_neg c2] at h
        omega
  · rw [if_neg c] at h
    omega
theorem tk_nm_len (t : Nat → Nat) (s n : Nat) : (tk_nm t s n).length = n := by unfold tk_nm; simp
theorem tk_nm_at {t : Nat → Nat} {s n i : Nat} (hi : i < n) : (tk_nm t s n).getD i 0 = t (s + i) - 96 := by
  unfold tk_nm
  rw [List.getD_eq_getElem?_getD, List.getElem?_map, List.getElem?_range hi]
  rfl
theorem tk_nm_hi {t : Nat → Nat} {s n i : Nat} (hi : n ≤ i) : (tk_nm t s n).getD i 0 = 0 := by
  rw [List.getD_eq_getElem?_getD, List.getElem?_eq_none (by rw [tk_nm_len]; exact hi)]
  rfl
theorem tk_le_at {t : Nat → Nat} {N b i : Nat} (ht : ∀ i, t i < 256) (hb : b ≤ N) (h : 281 ≤ tk_k t N b ∧ tk_k t N b ≤ 287) (h1 : tk_s t N b ≤ i) (h2 : i < tk_e t N b) : 97 ≤ t i ∧ t i ≤ 122 := by
  obtain ⟨k1, k2, k3, k4⟩ := tk_281 ht h
  have sp := tk_w_sp (tk_le t) N _ (tk_s t N b) (Nat.le_refl _) (by omega)
  rw [← k3] at sp
  exact of_decide_eq_true (sp.2.2.2 i h1 h2)
theorem tk_name_ok {t : Nat → Nat} {N b : Nat} {r : List Nat × Nat} (ht : ∀ i, t i < 256) (hb : b ≤ N) (h : tk_name t N b = .ok r) : g_nk r.1 ∧ (281 ≤ tk_k t N b ∧ tk_k t N b ≤ 287) ∧ tk_e t N b - tk_s t N b ≤ 6 ∧ r.1 = tk_nm t (tk_s t N b) (tk_e t N b - tk_s t N b) ∧ r.2 = tk_e t N b ∧ b < r.2 ∧ r.2 ≤ N := by
  unfold tk_name at h
  by_cases c : 281 ≤ tk_k t N b ∧ tk_k t N b ≤ 287
  · rw [if_pos c] at h
    by_cases c1 : tk_e t N b - tk_s t N b ≤ 6
    · rw [if_pos c1] at h
      have hgt := tk_e_gt hb (show tk_k t N b ≠ 301 by omega)
      have hes := tk_e_sp t hb
      have k1 := (tk_281 ht c).1
      rw [← Except.ok.inj h]
      refine ⟨⟨?_, ?_, fun x hx => ?_⟩, c, c1, rfl, rfl, hgt.1, hes.2.1⟩
      · show 1 ≤ (tk_nm _ _ _).length
        rw [tk_nm_len]
        have := hes.2.2 k1
        omega
      · show (tk_nm _ _ _).length ≤ 6
        rw [tk_nm_len]
        exact c1
      · have hx : x ∈ tk_nm t (tk_s t N b) (tk_e t N b - tk_s t N b) := hx
        unfold tk_nm at hx
        obtain ⟨i, hi, e⟩ := List.mem_map.mp hx
        have hi := List.mem_range.mp hi
        have := tk_le_at ht hb c (show tk_s t N b ≤ tk_s t N b + i by omega) (by omega)
        rw [← e]
        omega
    · rw [if_neg c1] at h
      cases h
  · rw [if_neg c] at h
    cases h
theorem g_nx_un (L : List Nat) : g_nx L = ((((L.getD 0 0 * 32 + L.getD 1 0) * 32 + L.getD 2 0) * 32 + L.getD 3 0) * 32 + L.getD 4 0) * 32 + L.getD 5 0 := by
  unfold g_nx
  show (((((0 * 32 + L.getD 0 0) * 32 + L.getD 1 0) * 32 + L.getD 2 0) * 32 + L.getD 3 0) * 32 + L.getD 4 0) * 32 + L.getD 5 0 = _
  rw [Nat.zero_mul, Nat.zero_add]
theorem g_nk_at {L : List Nat} (h : g_nk L) (i : Nat) : L.getD i 0 ≤ 26 ∧ (i < L.length ↔ 1 ≤ L.getD i 0) := by
  by_cases c : i < L.length
  · rw [List.getD_eq_getElem?_getD, List.getElem?_eq_getElem c]
    have := h.2.2 _ (List.getElem_mem c)
    show L[i] ≤ 26 ∧ (i < L.length ↔ 1 ≤ L[i])
    omega
  · rw [List.getD_eq_getElem?_getD, List.getElem?_eq_none (by omega)]
    show 0 ≤ 26 ∧ (i < L.length ↔ 1 ≤ 0)
    omega
theorem g_nx_lt {L : List Nat} (h : g_nk L) : g_nx L < 2 ^ 30 := by
  have h0 := (g_nk_at h 0).1
  have h1 := (g_nk_at h 1).1
  have h2 := (g_nk_at h 2).1
  have h3 := (g_nk_at h 3).1
  have h4 := (g_nk_at h 4).1
  have h5 := (g_nk_at h 5).1
  rw [g_nx_un]
  omega
theorem g_32 {x y a c : Nat} (ha : a ≤ 26) (hc : c ≤ 26) (h : x * 32 + a = y * 32 + c) : x = y ∧ a = c := by omega
theorem g_nx_inj {L M : List Nat} (hL : g_nk L) (hM : g_nk M) (h : g_nx L = g_nx M) : L = M := by
  have bL := fun i => (g_nk_at hL i).1
  have bM := fun i => (g_nk_at hM i).1
  rw [g_nx_un, g_nx_un] at h
  obtain ⟨h, e5⟩ := g_32 (bL 5) (bM 5) h
  obtain ⟨h, e4⟩ := g_32 (bL 4) (bM 4) h
  obtain ⟨h, e3⟩ := g_32 (bL 3) (bM 3) h
  obtain ⟨h, e2⟩ := g_32 (bL 2) (bM 2) h
  obtain ⟨e0, e1⟩ := g_32 (bL 1) (bM 1) h
  have e : ∀ i, L.getD i 0 = M.getD i 0 := fun i => by
    by_cases c : i < 6
    · have c6 : i = 0 ∨ i = 1 ∨ i = 2 ∨ i = 3 ∨ i = 4 ∨ i = 5 := by omega
      rcases c6 with y | y | y | y | y | y <;> (rw [y]; assumption)
    · have hl := hL.2.1
      have hm := hM.2.1
      rw [List.getD_eq_getElem?_getD, List.getElem?_eq_none (by omega), List.getD_eq_getElem?_getD, List.getElem?_eq_none (by omega)]
  have hlen : ∀ i, i < L.length ↔ i < M.length := fun i => by rw [(g_nk_at hL i).2, (g_nk_at hM i).2, e i]
  have hll : L.length = M.length := by
    have a1 := hlen L.length
    have a2 := hlen M.length
    omega
  refine List.ext_getElem hll (fun i h1 h2 => ?_)
  have := e i
  rw [List.getD_eq_getElem?_getD, List.getElem?_eq_getElem h1, List.getD_eq_getElem?_getD, List.getElem?_eq_getElem h2] at this
  exact this
def g_nh : List Nat → Nat
  | [] => 0
  | c :: R => 27 * g_nh R + c
theorem g_nh_inj : ∀ (L M : List Nat), (∀ c ∈ L, 1 ≤ c ∧ c ≤ 26) → (∀ c ∈ M, 1 ≤ c ∧ c ≤ 26) → g_nh L = g_nh M → L = M
  | [], [], _, _, _ => rfl
  | [], c :: M, hL, hM, h => by
    have := hM c (by simp)
    unfold g_nh at h
    omega
  | c :: L, [], hL, hM, h => by
    have := hL c (by simp)
    unfold g_nh at h
    omega
  | c :: L, d :: M, hL, hM, h => by
    have h1 := hL c (by simp)
    have h2 := hM d (by simp)
    have h : 27 * g_nh L + c = 27 * g_nh M + d := h
    have e1 : c = d := by omega
    have e2 := g_nh_inj L M (fun x hx => hL x (by simp [hx])) (fun x hx => hM x (by simp [hx])) (by omega)
    rw [e1, e2]
theorem g_nr_nh : ∀ (L : List Nat), g_nr L = g_nh L.reverse := fun L => by
  have : ∀ (L : List Nat) (a : Nat), L.foldl (fun a c => 27 * a + c) a = g_nh (L.reverse ++ []) + 27 ^ L.length * a := fun L => by
    induction L with
    | nil =>
      intro a
      show a = 0 + 1 * a
      omega
    | cons c L ih =>
      intro a
      have key : ∀ (R : List Nat) (c : Nat), g_nh (R ++ [c]) = g_nh R + 27 ^ R.length * c := fun R => by
        induction R with
        | nil =>
          intro c
          show 27 * 0 + c = 0 + 1 * c
          omega
        | cons d R ih2 =>
          intro c
          show 27 * g_nh (R ++ [c]) + d = 27 * g_nh R + d + 27 ^ (R.length + 1) * c
          rw [ih2 c, Nat.pow_succ, Nat.mul_comm (27 ^ R.length) 27, Nat.mul_assoc]
          omega
      show L.foldl (fun a c => 27 * a + c) (27 * a + c) = g_nh ((c :: L).reverse ++ []) + 27 ^ (L.length + 1) * a
      rw [ih (27 * a + c), List.append_nil, List.append_nil, List.reverse_cons, key, List.length_reverse, Nat.pow_succ, Nat.mul_add, ← Nat.mul_assoc]
      omega
  have h := this L 0
  rw [List.append_nil, Nat.mul_zero, Nat.add_zero] at h
  exact h
theorem g_nr_inj {L M : List Nat} (hL : g_nk L) (hM : g_nk M) (h : g_nr L = g_nr M) : L = M := by
  rw [g_nr_nh, g_nr_nh] at h
  have := g_nh_inj L.reverse M.reverse (fun c hc => hL.2.2 c (by simpa using hc)) (fun c hc => hM.2.2 c (by simpa using hc)) h
  have := congrArg List.reverse this
  rwa [List.reverse_reverse, List.reverse_reverse] at this
/-! what can be -/
def pu_ok (u : g_U) : Prop := g_ld u.1 u.2.1 ∧ ((∀ f, f < u.1 0 0 → g_nk (u.2.2.1 0 f)) ∧ ∀ s, s < u.1 0 2 → g_nk (u.2.2.1 1 s)) ∧ (∀ f g, f < u.1 0 0 → g < u.1 0 0 → u.2.2.1 0 f = u.2.2.1 0 g → f = g) ∧ u.2.2.2.1 < 2 ^ u.1 0 1 ∧ u.2.2.2.2 < 8 ∧ (u.2.2.2.2.testBit 1 = true → pe_wt 1 (u.2.1 1) [] = some [1])
theorem u_0_ok : pu_ok u_0 := by
  refine ⟨⟨by decide, by decide, by decide, by decide, fun f hf => (by cases hf), fun k hk => (by cases hk), fun s hs => (by cases hs), by decide, Or.inr rfl, by decide⟩, ⟨fun f hf => (by cases hf), fun s hs => (by cases hs)⟩, fun f g hf => (by cases hf), by decide, by decide, fun h => (by cases h)⟩
theorem ub_ok {α β : Type} {r : Except (Nat × Nat) α} {f : α → Except (Nat × Nat) β} {q : β} (h : ub r f = .ok q) : ∃ q1, r = .ok q1 ∧ f q1 = .ok q := by
  unfold ub at h
  cases hr : r with
  | error e =>
    rw [hr] at h
    cases h
  | ok q1 =>
    rw [hr] at h
    exact ⟨q1, rfl, h⟩
theorem pu_exp_ok {β : Type} {t : Nat → Nat} {N kd b : Nat} {k : Nat → Except (Nat × Nat) β} {q : β} (h : pu_exp t N kd b k = .ok q) : tk_k t N b = kd ∧ k (tk_e t N b) = .ok q := by
  unfold pu_exp at h
  by_cases c : tk_k t N b = kd
  · rw [if_pos c] at h
    exact ⟨c, h⟩
  · rw [if_neg c] at h
    cases h
theorem tk_num_ok {t : Nat → Nat} {N lo lim b : Nat} {r : Nat × Nat} (hb : b ≤ N) (hn : tk_num t N lo lim b = .ok r) : lo ≤ r.1 ∧ r.1 < lim ∧ b < r.2 ∧ r.2 ≤ N := by
  unfold tk_num at hn
  split at hn
  · next c0 =>
    split at hn
    · split at hn
      · next c =>
        rw [← Except.ok.inj hn]
        have hgt := tk_e_gt hb (show tk_k t N b ≠ 301 by omega)
        exact ⟨c.1, c.2, hgt.1, (tk_e_sp t hb).2.1⟩
      · cases hn
    · cases hn
  · cases hn
theorem pu_new_ok {t : Nat → Nat} {N b : Nat} {u : g_U} {r : List Nat × Nat} (ht : ∀ i, t i < 256) (hb : b ≤ N) (h : pu_new t N u b = .ok r) : g_nk r.1 ∧ b < r.2 ∧ r.2 ≤ N ∧ (∀ f, f < u.1 0 0 → u.2.2.1 0 f ≠ r.1) := by
  unfold pu_new at h
  obtain ⟨q1, e1, e2⟩ := ub_ok h
  have k := tk_name_ok ht hb e1
  by_cases c : g_fn (u.2.2.1 0) q1.1 (u.1 0 0) = none ∧ g_fn (u.2.2.1 1) q1.1 (u.1 0 2) = none
  · rw [if_pos c] at e2
    rw [← Except.ok.inj e2]
    refine ⟨k.1, k.2.2.2.2.2.1, k.2.2.2.2.2.2, fun f hf => ?_⟩
    exact of_decide_eq_false (g_fi_none c.1 f (by omega) (by omega))
  · rw [if_neg c] at e2
    cases e2
theorem pu_kn_ok {t : Nat → Nat} {N b : Nat} {u : g_U} {oth : Option Nat} {r : Nat × Nat} (ht : ∀ i, t i < 256) (hb : b ≤ N) (h : pu_kn t N u oth b = .ok r) : r.1 < u.1 0 0 ∧ oth ≠ some r.1 ∧ b < r.2 ∧ r.2 ≤ N := by
  unfold pu_kn at h
  obtain ⟨q1, e1, e2⟩ := ub_ok h
  have k := tk_name_ok ht hb e1
  cases hf : g_fn (u.2.2.1 0) q1.1 (u.1 0 0) with
  | none =>
    rw [hf] at e2
    have e2 : (Except.error (3, tk_s t N b) : Except (Nat × Nat) (Nat × Nat)) = .ok r := e2
    cases e2
  | some f =>
    rw [hf] at e2
    have e2 : (if oth = some f then Except.error (3, tk_s t N b) else Except.ok (f, q1.2) : Except (Nat × Nat) (Nat × Nat)) = .ok r := e2
    have h1 := g_fi_some hf
    by_cases c : oth = some f
    · rw [if_pos c] at e2
      cases e2
    · rw [if_neg c] at e2
      rw [← Except.ok.inj e2]
      exact ⟨by show f < u.1 0 0; omega, c, k.2.2.2.2.2.1, k.2.2.2.2.2.2⟩
theorem u_f_ok {u : g_U} {v : List Nat} {x : Nat} (h : pu_ok u) (h8 : u.1 0 0 < 8) (hv : g_nk v) (hn : ∀ f, f < u.1 0 0 → u.2.2.1 0 f ≠ v) (hx : x < 10) : pu_ok (u_f u v x) := by
  obtain ⟨⟨a1, a2, a3, a4, a5, a6, a7, a8, a9, a10⟩, ⟨b1, b2⟩, b3, b4, b5, b6⟩ := h
  have e00 : (u_f u v x).1 0 0 = u.1 0 0 + 1 := rfl
  have el : ∀ i j, i ≠ 1 → (i ≠ 0 ∨ j ≠ 0) → (u_f u v x).1 i j = u.1 i j := fun i j h1 h2 => by
    show (if i = 0 ∧ j = 0 then u.1 0 0 + 1 else if i = 1 ∧ j = u.1 0 0 then x else u.1 i j) = u.1 i j
    rw [if_neg (by omega), if_neg (by omega)]
  have e1 : ∀ j, (u_f u v x).1 1 j = if j = u.1 0 0 then x else u.1 1 j := fun j => by
    show (if 1 = 0 ∧ j = 0 then u.1 0 0 + 1 else if 1 = 1 ∧ j = u.1 0 0 then x else u.1 1 j) = _
    rw [if_neg (by omega)]
    by_cases c : j = u.1 0 0
    · rw [if_pos ⟨rfl, c⟩, if_pos c]
    · rw [if_neg (fun y => c y.2), if_neg c]
  have en : ∀ j, (u_f u v x).2.2.1 0 j = if j = u.1 0 0 then v else u.2.2.1 0 j := fun j => by
    show (if 0 = 0 ∧ j = u.1 0 0 then v else u.2.2.1 0 j) = _
    by_cases c : j = u.1 0 0
    · rw [if_pos ⟨rfl, c⟩, if_pos c]
    · rw [if_neg (fun y => c y.2), if_neg c]
  have en1 : ∀ j, (u_f u v x).2.2.1 1 j = u.2.2.1 1 j := fun j => rfl
  refine ⟨⟨by rw [e00]; omega, by rw [el 0 1 (by omega) (by omega)]; exact a2, by rw [el 0 2 (by omega) (by omega)]; exact a3, by rw [el 0 3 (by omega) (by omega)]; exact a4, fun f hf => ?_, fun k hk => ?_, fun s hs => ?_, a8, a9, a10⟩, ⟨fun f hf => ?_, fun s hs => ?_⟩, fun f g hf hg e => ?_, ?_, b5, b6⟩
  · rw [e1]
    rw [e00] at hf
    by_cases c : f = u.1 0 0
    · rw [if_pos c]; omega
    · rw [if_neg c]
      exact a5 f (by omega)
  · rw [el 0 1 (by omega) (by omega)] at hk
    rw [el 2 _ (by omega) (by omega), el 2 _ (by omega) (by omega), el 2 _ (by omega) (by omega), e00]
    have := a6 k hk
    omega
  · rw [el 0 2 (by omega) (by omega)] at hs
    rw [el 3 _ (by omega) (by omega), el 3 _ (by omega) (by omega), e00]
    have := a7 s hs
    omega
  · rw [en]
    rw [e00] at hf
    by_cases c : f = u.1 0 0
    · rw [if_pos c]; exact hv
    · rw [if_neg c]
      exact b1 f (by omega)
  · rw [el 0 2 (by omega) (by omega)] at hs
    exact b2 s hs
  · rw [en, en] at e
    rw [e00] at hf hg
    by_cases c : f = u.1 0 0
    · by_cases d : g = u.1 0 0
      · omega
      · rw [if_pos c, if_neg d] at e
        exact absurd e.symm (hn g (by omega))
    · by_cases d : g = u.1 0 0
      · rw [if_neg c, if_pos d] at e
        exact absurd e (hn f (by omega))
      · rw [if_neg c, if_neg d] at e
        exact b3 f g (by omega) (by omega) e
  · rw [el 0 1 (by omega) (by omega)]
    exact b4
theorem u_g_el {u : g_U} {a c m : Nat} : (u_g u a c m).1 0 1 = u.1 0 1 + 1 ∧ (∀ i j, i ≠ 2 → (i ≠ 0 ∨ j ≠ 1) → (u_g u a c m).1 i j = u.1 i j) ∧ (∀ j, j < 3 * u.1 0 1 → (u_g u a c m).1 2 j = u.1 2 j) ∧ (u_g u a c m).1 2 (3 * u.1 0 1) = a ∧ (u_g u a c m).1 2 (3 * u.1 0 1 + 1) = c ∧ (u_g u a c m).1 2 (3 * u.1 0 1 + 2) = m := by
  refine ⟨rfl, fun i j h1 h2 => ?_, fun j hj => ?_, ?_, ?_, ?_⟩
  · show (if i = 0 ∧ j = 1 then u.1 0 1 + 1 else if i = 2 ∧ j = 3 * u.1 0 1 then a else if i = 2 ∧ j = 3 * u.1 0 1 + 1 then c else if i = 2 ∧ j = 3 * u.1 0 1 + 2 then m else u.1 i j) = u.1 i j
    rw [if_neg (by omega), if_neg (by omega), if_neg (by omega), if_neg (by omega)]
  · show (if 2 = 0 ∧ j = 1 then u.1 0 1 + 1 else if 2 = 2 ∧ j = 3 * u.1 0 1 then a else if 2 = 2 ∧ j = 3 * u.1 0 1 + 1 then c else if 2 = 2 ∧ j = 3 * u.1 0 1 + 2 then m else u.1 2 j) = u.1 2 j
    rw [if_neg (by omega), if_neg (by omega), if_neg (by omega), if_neg (by omega)]
  · show (if 2 = 0 ∧ 3 * u.1 0 1 = 1 then u.1 0 1 + 1 else if 2 = 2 ∧ 3 * u.1 0 1 = 3 * u.1 0 1 then a else if 2 = 2 ∧ 3 * u.1 0 1 = 3 * u.1 0 1 + 1 then c else if 2 = 2 ∧ 3 * u.1 0 1 = 3 * u.1 0 1 + 2 then m else u.1 2 (3 * u.1 0 1)) = a
    rw [if_neg (by omega), if_pos ⟨rfl, rfl⟩]
  · show (if 2 = 0 ∧ 3 * u.1 0 1 + 1 = 1 then u.1 0 1 + 1 else if 2 = 2 ∧ 3 * u.1 0 1 + 1 = 3 * u.1 0 1 then a else if 2 = 2 ∧ 3 * u.1 0 1 + 1 = 3 * u.1 0 1 + 1 then c else if 2 = 2 ∧ 3 * u.1 0 1 + 1 = 3 * u.1 0 1 + 2 then m else u.1 2 (3 * u.1 0 1 + 1)) = c
    rw [if_neg (by omega), if_neg (by omega), if_pos ⟨rfl, rfl⟩]
  · show (if 2 = 0 ∧ 3 * u.1 0 1 + 2 = 1 then u.1 0 1 + 1 else if 2 = 2 ∧ 3 * u.1 0 1 + 2 = 3 * u.1 0 1 then a else if 2 = 2 ∧ 3 * u.1 0 1 + 2 = 3 * u.1 0 1 + 1 then c else if 2 = 2 ∧ 3 * u.1 0 1 + 2 = 3 * u.1 0 1 + 2 then m else u.1 2 (3 * u.1 0 1 + 2)) = m
    rw [if_neg (by omega), if_neg (by omega), if_neg (by omega), if_pos ⟨rfl, rfl⟩]
theorem u_s_el {u : g_U} {v : List Nat} {a c : Nat} : (u_s u v a c).1 0 2 = u.1 0 2 + 1 ∧ (∀ i j, i ≠ 3 → (i ≠ 0 ∨ j ≠ 2) → (u_s u v a c).1 i j = u.1 i j) ∧ (∀ j, j < 2 * u.1 0 2 → (u_s u v a c).1 3 j = u.1 3 j) ∧ (u_s u v a c).1 3 (2 * u.1 0 2) = a ∧ (u_s u v a c).1 3 (2 * u.1 0 2 + 1) = c ∧ (∀ j, (u_s u v a c).2.2.1 0 j = u.2.2.1 0 j) ∧ (∀ j, (u_s u v a c).2.2.1 1 j = if j = u.1 0 2 then v else u.2.2.1 1 j) := by
  refine ⟨rfl, fun i j h1 h2 => ?_, fun j hj => ?_, ?_, ?_, fun j => rfl, fun j => ?_⟩
  · show (if i = 0 ∧ j = 2 then u.1 0 2 + 1 else if i = 3 ∧ j = 2 * u.1 0 2 then a else if i = 3 ∧ j = 2 * u.1 0 2 + 1 then c else u.1 i j) = u.1 i j
    rw [if_neg (by omega), if_neg (by omega), if_neg (by omega)]
  · show (if 3 = 0 ∧ j = 2 then u.1 0 2 + 1 else if 3 = 3 ∧ j = 2 * u.1 0 2 then a else if 3 = 3 ∧ j = 2 * u.1 0 2 + 1 then c else u.1 3 j) = u.1 3 j
    rw [if_neg (by omega), if_neg (by omega), if_neg (by omega)]
  · show (if 3 = 0 ∧ 2 * u.1 0 2 = 2 then u.1 0 2 + 1 else if 3 = 3 ∧ 2 * u.1 0 2 = 2 * u.1 0 2 then a else if 3 = 3 ∧ 2 * u.1 0 2 = 2 * u.1 0 2 + 1 then c else u.1 3 (2 * u.1 0 2)) = a
    rw [if_neg (by omega), if_pos ⟨rfl, rfl⟩]
  · show (if 3 = 0 ∧ 2 * u.1 0 2 + 1 = 2 then u.1 0 2 + 1 else if 3 = 3 ∧ 2 * u.1 0 2 + 1 = 2 * u.1 0 2 then a else if 3 = 3 ∧ 2 * u.1 0 2 + 1 = 2 * u.1 0 2 + 1 then c else u.1 3 (2 * u.1 0 2 + 1)) = c
    rw [if_neg (by omega), if_neg (by omega), if_pos ⟨rfl, rfl⟩]
  · show (if 1 = 1 ∧ j = u.1 0 2 then v else u.2.2.1 1 j) = _
    by_cases c : j = u.1 0 2
    · rw [if_pos ⟨rfl, c⟩, if_pos c]
    · rw [if_neg (fun y => c y.2), if_neg c]
theorem u_f_el {u : g_U} {v : List Nat} {x : Nat} : (u_f u v x).1 0 0 = u.1 0 0 + 1 ∧ (∀ i j, i ≠ 1 → (i ≠ 0 ∨ j ≠ 0) → (u_f u v x).1 i j = u.1 i j) ∧ (∀ j, (u_f u v x).1 1 j = if j = u.1 0 0 then x else u.1 1 j) ∧ (∀ j, (u_f u v x).2.2.1 1 j = u.2.2.1 1 j) ∧ (∀ j, (u_f u v x).2.2.1 0 j = if j = u.1 0 0 then v else u.2.2.1 0 j) := by
  refine ⟨rfl, fun i j h1 h2 => ?_, fun j => ?_, fun j => rfl, fun j => ?_⟩
  · show (if i = 0 ∧ j = 0 then u.1 0 0 + 1 else if i = 1 ∧ j = u.1 0 0 then x else u.1 i j) = u.1 i j
    rw [if_neg (by omega), if_neg (by omega)]
  · show (if 1 = 0 ∧ j = 0 then u.1 0 0 + 1 else if 1 = 1 ∧ j = u.1 0 0 then x else u.1 1 j) = _
    rw [if_neg (by omega)]
    by_cases c : j = u.1 0 0
    · rw [if_pos ⟨rfl, c⟩, if_pos c]
    · rw [if_neg (fun y => c y.2), if_neg c]
  · show (if 0 = 0 ∧ j = u.1 0 0 then v else u.2.2.1 0 j) = _
    by_cases c : j = u.1 0 0
    · rw [if_pos ⟨rfl, c⟩, if_pos c]
    · rw [if_neg (fun y => c y.2), if_neg c]
theorem u_w_el {u : g_U} {x : Nat} : (u_w u x).1 0 3 = x ∧ (∀ i j, (i ≠ 0 ∨ j ≠ 3) → (u_w u x).1 i j = u.1 i j) := by
  refine ⟨rfl, fun i j h2 => ?_⟩
  show (if i = 0 ∧ j = 3 then x else u.1 i j) = u.1 i j
  rw [if_neg (by omega)]
theorem u_g_ok {u : g_U} {a c m : Nat} (h : pu_ok u) (h10 : u.1 0 1 < 10) (ha : a < u.1 0 0) (hc : c < u.1 0 0) (hac : a ≠ c) (hm : 1 ≤ m ∧ m < 10) : pu_ok (u_g u a c m) := by
  obtain ⟨⟨a1, a2, a3, a4, a5, a6, a7, a8, a9, a10⟩, ⟨b1, b2⟩, b3, b4, b5, b6⟩ := h
  obtain ⟨e1, e2, e3, e4, e5, e6⟩ := u_g_el (u := u) (a := a) (c := c) (m := m)
  have q00 := e2 0 0 (by omega) (by omega)
  have q02 := e2 0 2 (by omega) (by omega)
  have q03 := e2 0 3 (by omega) (by omega)
  have en : (u_g u a c m).2.2.1 = u.2.2.1 := rfl
  refine ⟨⟨by rw [q00]; exact a1, by rw [e1]; omega, by rw [q02]; exact a3, by rw [q03]; exact a4, fun f hf => ?_, fun k hk => ?_, fun s hs => ?_, a8, a9, a10⟩, ⟨fun f hf => ?_, fun s hs => ?_⟩, fun f g hf hg e => ?_, ?_, b5, b6⟩
  · rw [q00] at hf
    rw [e2 1 f (by omega) (by omega)]
    exact a5 f hf
  · rw [e1] at hk
    rw [q00]
    by_cases d : k = u.1 0 1
    · rw [d, e4, e5, e6]
      omega
    · rw [e3 _ (by omega), e3 _ (by omega), e3 _ (by omega)]
      exact a6 k (by omega)
  · rw [q02] at hs
    rw [e2 3 _ (by omega) (by omega), e2 3 _ (by omega) (by omega), q00]
    exact a7 s hs
  · rw [q00] at hf
    exact b1 f hf
  · rw [q02] at hs
    exact b2 s hs
  · rw [q00] at hf hg
    exact b3 f g hf hg e
  · rw [e1]
    show u.2.2.2.1 ||| 2 ^ u.1 0 1 < 2 ^ (u.1 0 1 + 1)
    exact Nat.or_lt_two_pow (by rw [Nat.pow_succ]; omega) (by rw [Nat.pow_succ]; have := Nat.two_pow_pos (u.1 0 1); omega)
theorem u_s_ok {u : g_U} {v : List Nat} {a c : Nat} (h : pu_ok u) (h6 : u.1 0 2 < 6) (hv : g_nk v) (ha : a < u.1 0 0) (hc : c < 10) : pu_ok (u_s u v a c) := by
  obtain ⟨⟨a1, a2, a3, a4, a5, a6, a7, a8, a9, a10⟩, ⟨b1, b2⟩, b3, b4, b5, b6⟩ := h
  obtain ⟨e1, e2, e3, e4, e5, e6, e7⟩ := u_s_el (u := u) (v := v) (a := a) (c := c)
  have q00 := e2 0 0 (by omega) (by omega)
  have q01 := e2 0 1 (by omega) (by omega)
  have q03 := e2 0 3 (by omega) (by omega)
  refine ⟨⟨by rw [q00]; exact a1, by rw [q01]; exact a2, by rw [e1]; omega, by rw [q03]; exact a4, fun f hf => ?_, fun k hk => ?_, fun s hs => ?_, a8, a9, a10⟩, ⟨fun f hf => ?_, fun s hs => ?_⟩, fun f g hf hg e => ?_, by rw [q01]; exact b4, b5, b6⟩
  · rw [q00] at hf
    rw [e2 1 f (by omega) (by omega)]
    exact a5 f hf
  · rw [q01] at hk
    rw [e2 2 _ (by omega) (by omega), e2 2 _ (by omega) (by omega), e2 2 _ (by omega) (by omega), q00]
    exact a6 k hk
  · rw [e1] at hs
    rw [q00]
    by_cases d : s = u.1 0 2
    · rw [d, e4, e5]
      omega
    · rw [e3 _ (by omega), e3 _ (by omega)]
      exact a7 s (by omega)
  · rw [q00] at hf
    rw [e6]
    exact b1 f hf
  · rw [e1] at hs
    rw [e7]
    by_cases d : s = u.1 0 2
    · rw [if_pos d]
      exact hv
    · rw [if_neg d]
      exact b2 s (by omega)
  · rw [q00] at hf hg
    rw [e6, e6] at e
    exact b3 f g hf hg e
theorem u_w_ok {u : g_U} {x : Nat} (h : pu_ok u) (hx : x ≤ 100) : pu_ok (u_w u x) := by
  obtain ⟨⟨a1, a2, a3, a4, a5, a6, a7, a8, a9, a10⟩, ⟨b1, b2⟩, b3, b4, b5, b6⟩ := h
  obtain ⟨e1, e2⟩ := u_w_el (u := u) (x := x)
  exact ⟨⟨a1, a2, a3, hx, a5, a6, a7, a8, a9, a10⟩, ⟨b1, b2⟩, b3, b4, b5, b6⟩
theorem u_o_ok {u : g_U} {k : Nat} (h : pu_ok u) (hk : k < u.1 0 1) : pu_ok (u_o u k) := by
  obtain ⟨h1, h2, h3, b4, b5, b6⟩ := h
  exact ⟨h1, h2, h3, Nat.xor_lt_two_pow b4 (Nat.pow_lt_pow_right (by omega) hk), b5, b6⟩
theorem u_c_ok {u : g_U} {j : Nat} {C : List Nat} (h : pu_ok u) (hj : j < 3) (hC : pe_wt j C [] = some [if j = 1 then 1 else 0]) : pu_ok (u_c u j C) := by
  obtain ⟨⟨a1, a2, a3, a4, a5, a6, a7, a8, a9, a10⟩, h2, h3, b4, b5, b6⟩ := h
  have j3 : j = 0 ∨ j = 1 ∨ j = 2 := by omega
  have h8 : u.2.2.2.2 ||| 2 ^ j < 8 := Nat.or_lt_two_pow (n := 3) b5 (Nat.pow_lt_pow_right (by omega) hj)
  have ht : ∀ x, x < 8 → ((x ||| 2 ^ 0).testBit 1 = x.testBit 1 ∧ (x ||| 2 ^ 2).testBit 1 = x.testBit 1) := by decide
  rcases j3 with e | e | e
  · rw [e] at hC h8 ⊢
    exact ⟨⟨a1, a2, a3, a4, a5, a6, a7, hC, a9, a10⟩, h2, h3, b4, h8, fun y => b6 ((ht _ b5).1 ▸ y)⟩
  · rw [e] at hC h8 ⊢
    exact ⟨⟨a1, a2, a3, a4, a5, a6, a7, a8, Or.inl hC, a10⟩, h2, h3, b4, h8, fun y => hC⟩
  · rw [e] at hC h8 ⊢
    exact ⟨⟨a1, a2, a3, a4, a5, a6, a7, a8, a9, hC⟩, h2, h3, b4, h8, fun y => b6 ((ht _ b5).2 ▸ y)⟩
theorem pu_st_ok {t : Nat → Nat} {N b : Nat} {u : g_U} {q : g_U × Nat} (ht : ∀ i, t i < 256) (hb : b ≤ N) (hu : pu_ok u) (h : pu_st t N u b = .ok q) : pu_ok q.1 ∧ b < q.2 ∧ q.2 ≤ N := by
  have hkk : tk_k t N b ≠ 301 → b < tk_e t N b ∧ tk_e t N b ≤ N := fun z => ⟨(tk_e_gt hb z).1, (tk_e_sp t hb).2.1⟩
  have cod : ∀ j, j < 3 → tk_k t N b ≠ 301 → pu_codes t N u j b = .ok q → pu_ok q.1 ∧ b < q.2 ∧ q.2 ≤ N := fun j hj hk h => by
    obtain ⟨k1, k2⟩ := hkk hk
    unfold pu_codes at h
    by_cases c : u.2.2.2.2.testBit j = true
    · rw [if_pos c] at h
      cases h
    · rw [if_neg c] at h
      obtain ⟨q1, e1, e2⟩ := ub_ok h
      have l1 := pp_len (t := t) (N := N) (use := j) ht sw_depth (pu_gj j) 0 (tk_e t N b) k2 q1 e1
      have hgj : pu_gj j ≤ 5 := by unfold pu_gj; split <;> omega
      have l2 := pp_typ (t := t) (N := N) (use := j) (by omega) sw_depth (pu_gj j) 0 (tk_e t N b) (by omega) hgj q1 e1 [] (by simp; omega)
      rw [← Except.ok.inj e2]
      refine ⟨u_c_ok hu hj ?_, by show b < q1.2; omega, l1.2.2⟩
      rw [l2]
      have j3 : j = 0 ∨ j = 1 ∨ j = 2 := by omega
      rcases j3 with e | e | e <;> (rw [e]; rfl)
  unfold pu_st at h
  by_cases c1 : tk_k t N b = 256
  · obtain ⟨k1, k2⟩ := hkk (by omega)
    rw [if_pos c1] at h
    unfold pu_field at h
    by_cases c : u.1 0 0 < 8
    · rw [if_pos c] at h
      obtain ⟨q1, e1, e2⟩ := ub_ok h
      have f1 := pu_new_ok ht k2 e1
      obtain ⟨-, e3⟩ := pu_exp_ok e2
      obtain ⟨q2, e4, e5⟩ := ub_ok e3
      have s2 := tk_e_sp t f1.2.2.1
      have s3 := tk_s_sp t f1.2.2.1
      have f2 := tk_num_ok s2.2.1 e4
      rw [← Except.ok.inj e5]
      exact ⟨u_f_ok hu c f1.1 f1.2.2.2 f2.2.1, by show b < q2.2; omega, f2.2.2.2⟩
    · rw [if_neg c] at h
      cases h
  · rw [if_neg c1] at h
    by_cases c2 : tk_k t N b = 258
    · obtain ⟨k1, k2⟩ := hkk (by omega)
      rw [if_pos c2] at h
      unfold pu_gap at h
      by_cases c : u.1 0 1 < 10
      · rw [if_pos c] at h
        obtain ⟨q1, e1, e2⟩ := ub_ok h
        have f1 := pu_kn_ok ht k2 e1
        obtain ⟨-, e3⟩ := pu_exp_ok e2
        obtain ⟨q2, e4, e5⟩ := ub_ok e3
        have s2 := tk_e_sp t f1.2.2.2
        have s3 := tk_s_sp t f1.2.2.2
        have f2 := pu_kn_ok ht s2.2.1 e4
        obtain ⟨-, e6⟩ := pu_exp_ok e5
        obtain ⟨q3, e7, e8⟩ := ub_ok e6
        have s4 := tk_e_sp t f2.2.2.2
        have s5 := tk_s_sp t f2.2.2.2
        have f3 := tk_num_ok s4.2.1 e7
        rw [← Except.ok.inj e8]
        exact ⟨u_g_ok hu c f1.1 f2.1 (fun y => f2.2.1 (by rw [y])) ⟨f3.1, f3.2.1⟩, by show b < q3.2; omega, f3.2.2.2⟩
      · rw [if_neg c] at h
        cases h
    · rw [if_neg c2] at h
      by_cases c3 : tk_k t N b = 261
      · obtain ⟨k1, k2⟩ := hkk (by omega)
        rw [if_pos c3] at h
        unfold pu_shut at h
        obtain ⟨q1, e1, e2⟩ := ub_ok h
        have f1 := tk_num_ok k2 e1
        by_cases c : u.2.2.2.1.testBit q1.1 = true
        · rw [if_pos c] at e2
          rw [← Except.ok.inj e2]
          exact ⟨u_o_ok hu f1.2.1, by show b < q1.2; omega, f1.2.2.2⟩
        · rw [if_neg c] at e2
          cases e2
      · rw [if_neg c3] at h
        by_cases c4 : tk_k t N b = 262
        · obtain ⟨k1, k2⟩ := hkk (by omega)
          rw [if_pos c4] at h
          unfold pu_sheep at h
          by_cases c : u.1 0 2 < 6
          · rw [if_pos c] at h
            obtain ⟨q1, e1, e2⟩ := ub_ok h
            have f1 := pu_new_ok ht k2 e1
            obtain ⟨-, e3⟩ := pu_exp_ok e2
            obtain ⟨q2, e4, e5⟩ := ub_ok e3
            have s2 := tk_e_sp t f1.2.2.1
            have s3 := tk_s_sp t f1.2.2.1
            have f2 := pu_kn_ok ht s2.2.1 e4
            obtain ⟨-, e6⟩ := pu_exp_ok e5
            obtain ⟨q3, e7, e8⟩ := ub_ok e6
            have s4 := tk_e_sp t f2.2.2.2
            have s5 := tk_s_sp t f2.2.2.2
            have f3 := tk_num_ok s4.2.1 e7
            rw [← Except.ok.inj e8]
            exact ⟨u_s_ok hu c f1.1 f2.1 f3.2.1, by show b < q3.2; omega, f3.2.2.2⟩
          · rw [if_neg c] at h
            cases h
        · rw [if_neg c4] at h
          by_cases c5 : tk_k t N b = 265
          · rw [if_pos c5] at h
            exact cod 0 (by omega) (by omega) h
          · rw [if_neg c5] at h
            by_cases c6 : tk_k t N b = 266
            · rw [if_pos c6] at h
              exact cod 1 (by omega) (by omega) h
            · rw [if_neg c6] at h
              by_cases c7 : tk_k t N b = 267
              · rw [if_pos c7] at h
                exact cod 2 (by omega) (by omega) h
              · rw [if_neg c7] at h
                by_cases c8 : tk_k t N b = 268
                · obtain ⟨k1, k2⟩ := hkk (by omega)
                  rw [if_pos c8] at h
                  unfold pu_storm at h
                  obtain ⟨q1, e1, e2⟩ := ub_ok h
                  have f1 := tk_num_ok k2 e1
                  rw [← Except.ok.inj e2]
                  exact ⟨u_w_ok hu (by omega), by show b < q1.2; omega, f1.2.2.2⟩
                · rw [if_neg c8] at h
                  cases h

/-! What codes tell: codes of the reference, on a row of whole numbers. -/
def pe_clip (v : Int) : Int := if 1000000 < v then 1000000 else if v < -1000000 then -1000000 else v
def pe_fd (a b : Int) : Int := if b = 0 then 0 else if a.tmod b ≠ 0 ∧ ¬ ((a < 0) ↔ (b < 0)) then a.tdiv b - 1 else a.tdiv b
def pe_jn (c : Nat) (a b : Int) : Int :=
  if c = 1 then pe_clip (a + b) else if c = 2 then pe_clip (a - b) else if c = 3 then pe_clip (a * b) else if c = 4 then pe_fd a b
  else if c = 5 then (if a < b then a else b) else if c = 6 then (if b < a then a else b) else if c = 7 then (if a < b then 1 else 0)
  else if c = 8 then (if b < a then 1 else 0) else if c = 9 then (if a = b then 1 else 0) else if c = 10 then a * b else (if 0 < a + b then 1 else 0)
def pe_st (env : Nat → Int) (of : Nat → Int → Int) (c : Nat) (S : List Int) : List Int :=
  if 1000 ≤ c then ((c - 1000 : Nat) : Int) :: S
  else if 60 ≤ c then (match S with | [] => [] | a :: S1 => of (c - 60) a :: S1)
  else if 40 ≤ c then env (c - 40) :: S
  else if c = 13 then 1 :: S
  else match S with
    | [] => []
    | b :: S1 => if c = 12 then (1 - b) :: S1 else match S1 with
      | [] => []
      | a :: S2 => pe_jn c a b :: S2
def pe_run (env : Nat → Int) (of : Nat → Int → Int) : List Nat → List Int → List Int
  | [], S => S
  | c :: P, S => pe_run env of P (pe_st env of c S)
/-- which parts stand in which text -/
def pe_al (kind v : Nat) : Bool := if kind = 0 then decide (v < 6) else if kind = 1 then decide (v < 5) else if kind = 2 then decide (v < 3) || decide (v = 6) || decide (v = 7) else decide (v < 10) && (decide (v < 3) || decide (5 < v))
def pe_p1 (t : Nat) (r : Nat) : List Nat → Option (List Nat)
  | [] => none
  | x :: T => if x = t then some (r :: T) else none
def pe_p2 (t : Nat) (r : Nat) : List Nat → Option (List Nat)
  | [] => none
  | x :: T => if x = t then pe_p1 t r T else none
theorem pe_p1_sp {t r : Nat} {T T' : List Nat} (h : pe_p1 t r T = some T') : ∃ T1, T = t :: T1 ∧ T' = r :: T1 := by
  cases T with
  | nil => cases h
  | cons x T =>
    obtain ⟨h1, h2⟩ := sw_ifs (show (if x = t then some (r :: T) else none) = some T' from h)
    cases h2
    exact ⟨T, by rw [h1], rfl⟩
theorem pe_p2_sp {t r : Nat} {T T' : List Nat} (h : pe_p2 t r T = some T') : ∃ T1, T = t :: t :: T1 ∧ T' = r :: T1 := by
  cases T with
  | nil => cases h
  | cons x T =>
    obtain ⟨h1, h2⟩ := sw_ifs (show (if x = t then pe_p1 t r T else none) = some T' from h)
    obtain ⟨T1, h3, h4⟩ := pe_p1_sp h2
    exact ⟨T1, by rw [h1, h3], h4⟩
/-- the kinds (0 a number, 1 a truth) on the row behind a code -/
def pe_ty (kind c : Nat) (T : List Nat) : Option (List Nat) :=
  if 1000 ≤ c then (if c ≤ 10999 ∧ T.length < 60 then some (0 :: T) else none)
  else if 60 ≤ c then (if kind = 3 ∧ c ≤ 61 then pe_p1 0 0 T else none)
  else if 40 ≤ c then (if pe_al kind (c - 40) = true ∧ T.length < 60 then some (0 :: T) else none)
  else if c = 13 then (if T.length < 60 then some (1 :: T) else none)
  else if c = 12 then pe_p1 1 1 T
  else if 1 ≤ c ∧ c ≤ 6 then pe_p2 0 0 T
  else if 7 ≤ c ∧ c ≤ 9 then pe_p2 0 1 T
  else if c = 10 ∨ c = 11 then pe_p2 1 1 T
  else none
def pe_wt (kind : Nat) : List Nat → List Nat → Option (List Nat)
  | [], T => some T
  | c :: P, T => (pe_ty kind c T).bind (pe_wt kind P)
def pe_vt (t : Nat) (v : Int) : Prop := -1000000 ≤ v ∧ v ≤ 1000000 ∧ (t = 1 → v = 0 ∨ v = 1)
def pe_ok : List Nat → List Int → Prop
  | [], [] => True
  | t :: T, v :: S => pe_vt t v ∧ pe_ok T S
  | _, _ => False
theorem pe_ok_len : ∀ {T : List Nat} {S : List Int}, pe_ok T S → S.length = T.length
  | [], [], _ => rfl
  | _ :: _, _ :: _, h => by simp [pe_ok_len h.2]
  | [], _ :: _, h => h.elim
  | _ :: _, [], h => h.elim
theorem pe_clip_rng (v : Int) : -1000000 ≤ pe_clip v ∧ pe_clip v ≤ 1000000 := by
  unfold pe_clip
  split
  · omega
  · split <;> omega
theorem pe_clip_id {v : Int} (h1 : -1000000 ≤ v) (h2 : v ≤ 1000000) : pe_clip v = v := by
  unfold pe_clip
  rw [if_neg (by omega), if_neg (by omega)]
theorem pe_tdiv_rng {a b : Int} (ha : -1000000 ≤ a ∧ a ≤ 1000000) : -1000000 ≤ a.tdiv b ∧ a.tdiv b ≤ 1000000 := by
  have h := Int.natAbs_tdiv_le_natAbs a b
  omega
theorem pe_fd_rng {a b : Int} (ha : -1000000 ≤ a ∧ a ≤ 1000000) : -1000000 ≤ pe_fd a b ∧ pe_fd a b ≤ 1000000 := by
  have h := pe_tdiv_rng (b := b) ha
  unfold pe_fd
  split
  · omega
  · split
    · next h1 h2 =>
      refine ⟨?_, by omega⟩
      by_cases h3 : a.tdiv b = -1000000
      · exfalso
        have h4 := Int.tmod_add_mul_tdiv a b
        have h5 : (a.tdiv b).natAbs = a.natAbs / b.natAbs := Int.natAbs_tdiv a b
        rw [h3] at h5
        have h6 : (1000000 : Nat) = a.natAbs / b.natAbs := h5
        have h7 : a.natAbs ≤ 1000000 := by omega
        have h8 : b.natAbs = 1 := by
          rcases Nat.lt_trichotomy b.natAbs 1 with q | q | q
          · rw [show b.natAbs = 0 by omega, Nat.div_zero] at h6
            omega
          · exact q
          · have := Nat.div_le_div_left (a := a.natAbs) (show 2 ≤ b.natAbs from q) (by omega)
            omega
        have h9 : b = 1 ∨ b = -1 := by omega
        rcases h9 with rfl | rfl
        · simp at h2
        · simp at h2
      · omega
    · omega
theorem pe_j1 (a b : Int) : pe_jn 1 a b = pe_clip (a + b) := by
  unfold pe_jn
  rw [if_pos rfl]
theorem pe_j2 (a b : Int) : pe_jn 2 a b = pe_clip (a - b) := by
  unfold pe_jn
  rw [if_neg (by decide), if_pos rfl]
theorem pe_j3 (a b : Int) : pe_jn 3 a b = pe_clip (a * b) := by
  unfold pe_jn
  rw [if_neg (by decide), if_neg (by decide), if_pos rfl]
theorem pe_j4 (a b : Int) : pe_jn 4 a b = pe_fd a b := by
  unfold pe_jn
  rw [if_neg (by decide), if_neg (by decide), if_neg (by decide), if_pos rfl]
theorem pe_j5 (a b : Int) : pe_jn 5 a b = (if a < b then a else b) := by
  unfold pe_jn
  rw [if_neg (by decide), if_neg (by decide), if_neg (by decide), if_neg (by decide), if_pos rfl]
theorem pe_j6 (a b : Int) : pe_jn 6 a b = (if b < a then a else b) := by
  unfold pe_jn
  rw [if_neg (by decide), if_neg (by decide), if_neg (by decide), if_neg (by decide), if_neg (by decide), if_pos rfl]
theorem pe_j7 (a b : Int) : pe_jn 7 a b = (if a < b then 1 else 0) := by
  unfold pe_jn
  rw [if_neg (by decide), if_neg (by decide), if_neg (by decide), if_neg (by decide), if_neg (by decide), if_neg (by decide), if_pos rfl]
theorem pe_j8 (a b : Int) : pe_jn 8 a b = (if b < a then 1 else 0) := by
  unfold pe_jn
  rw [if_neg (by decide), if_neg (by decide), if_neg (by decide), if_neg (by decide), if_neg (by decide), if_neg (by decide), if_neg (by decide), if_pos rfl]
theorem pe_j9 (a b : Int) : pe_jn 9 a b = (if a = b then 1 else 0) := by
  unfold pe_jn
  rw [if_neg (by decide), if_neg (by decide), if_neg (by decide), if_neg (by decide), if_neg (by decide), if_neg (by decide), if_neg (by decide), if_neg (by decide), if_pos rfl]
theorem pe_j10 (a b : Int) : pe_jn 10 a b = a * b := by
  unfold pe_jn
  rw [if_neg (by decide), if_neg (by decide), if_neg (by decide), if_neg (by decide), if_neg (by decide), if_neg (by decide), if_neg (by decide), if_neg (by decide), if_neg (by decide), if_pos rfl]
theorem pe_j11 (a b : Int) : pe_jn 11 a b = (if 0 < a + b then 1 else 0) := by
  unfold pe_jn
  rw [if_neg (by decide), if_neg (by decide), if_neg (by decide), if_neg (by decide), if_neg (by decide), if_neg (by decide), if_neg (by decide), if_neg (by decide), if_neg (by decide), if_neg (by decide)]
theorem pe_jn_rg {c : Nat} {a b : Int} {t : Nat} (h : 1 ≤ c ∧ c ≤ 11) (ha : pe_vt t a) (hb : pe_vt t b) (ht : (c ≤ 9 ∧ t = 0) ∨ (9 < c ∧ t = 1)) : (-1000000 ≤ pe_jn c a b ∧ pe_jn c a b ≤ 1000000) ∧ (7 ≤ c → pe_jn c a b = 0 ∨ pe_jn c a b = 1) := by
  obtain ⟨a1, a2, a3⟩ := ha
  obtain ⟨b1, b2, b3⟩ := hb
  have k1 : c = 1 ∨ c = 2 ∨ c = 3 ∨ c = 4 ∨ c = 5 ∨ c = 6 ∨ c = 7 ∨ c = 8 ∨ c = 9 ∨ c = 10 ∨ c = 11 := by omega
  rcases k1 with rfl | rfl | rfl | rfl | rfl | rfl | rfl | rfl | rfl | rfl | rfl
  · rw [pe_j1]
    exact ⟨pe_clip_rng _, fun z => by omega⟩
  · rw [pe_j2]
    exact ⟨pe_clip_rng _, fun z => by omega⟩
  · rw [pe_j3]
    exact ⟨pe_clip_rng _, fun z => by omega⟩
  · rw [pe_j4]
    exact ⟨pe_fd_rng ⟨a1, a2⟩, fun z => by omega⟩
  · rw [pe_j5]
    exact ⟨by split <;> omega, fun z => by omega⟩
  · rw [pe_j6]
    exact ⟨by split <;> omega, fun z => by omega⟩
  · rw [pe_j7]
    exact ⟨by split <;> omega, fun z => by split <;> omega⟩
  · rw [pe_j8]
    exact ⟨by split <;> omega, fun z => by split <;> omega⟩
  · rw [pe_j9]
    exact ⟨by split <;> omega, fun z => by split <;> omega⟩
  · have ht1 : t = 1 := by omega
    rw [pe_j10]
    have hv : a * b = 0 ∨ a * b = 1 := by
      rcases a3 ht1 with h1 | h1
      · exact Or.inl (by rw [h1, Int.zero_mul])
      · rcases b3 ht1 with h2 | h2
        · exact Or.inl (by rw [h2, Int.mul_zero])
        · exact Or.inr (by rw [h1, h2]; rfl)
    exact ⟨by omega, fun _ => hv⟩
  · rw [pe_j11]
    exact ⟨by split <;> omega, fun z => by split <;> omega⟩
theorem pe_ok_cons {t : Nat} {T : List Nat} {S : List Int} (h : pe_ok (t :: T) S) : ∃ v S1, S = v :: S1 ∧ pe_vt t v ∧ pe_ok T S1 := by
  cases S with
  | nil => exact h.elim
  | cons v S1 => exact ⟨v, S1, rfl, h.1, h.2⟩
/-- parts are small, what is told of a number too -/
def pe_env (kind : Nat) (env : Nat → Int) (of : Nat → Int → Int) : Prop := (∀ v, pe_al kind v = true → -1000000 ≤ env v ∧ env v ≤ 1000000) ∧ (kind = 3 → ∀ v a, -1000000 ≤ of v a ∧ of v a ≤ 1000000)
theorem pe_st_ok {kind c : Nat} {env : Nat → Int} {of : Nat → Int → Int} {T T' : List Nat} {S : List Int} (hE : pe_env kind env of) (hS : pe_ok T S) (h : pe_ty kind c T = some T') : pe_ok T' (pe_st env of c S) := by
  unfold pe_ty at h
  unfold pe_st
  by_cases h1 : 1000 ≤ c
  · rw [if_pos h1] at h ⊢
    obtain ⟨⟨q, -⟩, h⟩ := sw_ifs h
    cases h
    exact ⟨⟨by omega, by omega, by simp⟩, hS⟩
  rw [if_neg h1] at h ⊢
  by_cases h2 : 60 ≤ c
  · rw [if_pos h2] at h ⊢
    obtain ⟨⟨q, -⟩, h⟩ := sw_ifs h
    obtain ⟨T1, rfl, rfl⟩ := pe_p1_sp h
    obtain ⟨v, S1, rfl, g1, g2⟩ := pe_ok_cons hS
    exact ⟨⟨(hE.2 q _ _).1, (hE.2 q _ _).2, by simp⟩, g2⟩
  rw [if_neg h2] at h ⊢
  by_cases h3 : 40 ≤ c
  · rw [if_pos h3] at h ⊢
    obtain ⟨⟨q, -⟩, h⟩ := sw_ifs h
    cases h
    exact ⟨⟨(hE.1 _ q).1, (hE.1 _ q).2, by simp⟩, hS⟩
  rw [if_neg h3] at h ⊢
  by_cases h4 : c = 13
  · rw [if_pos h4] at h ⊢
    obtain ⟨-, h⟩ := sw_ifs h
    cases h
    exact ⟨⟨by omega, by omega, fun _ => Or.inr rfl⟩, hS⟩
  rw [if_neg h4] at h ⊢
  by_cases h5 : c = 12
  · rw [if_pos h5] at h
    obtain ⟨T1, rfl, rfl⟩ := pe_p1_sp h
    obtain ⟨v, S1, rfl, g1, g2⟩ := pe_ok_cons hS
    simp only [h5, if_true]
    have := g1.2.2 rfl
    exact ⟨⟨by omega, by omega, fun _ => by omega⟩, g2⟩
  rw [if_neg h5] at h
  by_cases h6 : 1 ≤ c ∧ c ≤ 6
  · rw [if_pos h6] at h
    obtain ⟨T1, rfl, rfl⟩ := pe_p2_sp h
    obtain ⟨b, S1, rfl, g1, g2⟩ := pe_ok_cons hS
    obtain ⟨a, S2, rfl, g3, g4⟩ := pe_ok_cons g2
    simp only [if_neg h5]
    have := pe_jn_rg (c := c) (by omega) g3 g1 (Or.inl ⟨by omega, rfl⟩)
    exact ⟨⟨this.1.1, this.1.2, fun z => by omega⟩, g4⟩
  rw [if_neg h6] at h
  by_cases h7 : 7 ≤ c ∧ c ≤ 9
  · rw [if_pos h7] at h
    obtain ⟨T1, rfl, rfl⟩ := pe_p2_sp h
    obtain ⟨b, S1, rfl, g1, g2⟩ := pe_ok_cons hS
    obtain ⟨a, S2, rfl, g3, g4⟩ := pe_ok_cons g2
    simp only [if_neg h5]
    have := pe_jn_rg (c := c) (by omega) g3 g1 (Or.inl ⟨by omega, rfl⟩)
    exact ⟨⟨this.1.1, this.1.2, fun z => this.2 h7.1⟩, g4⟩
  rw [if_neg h7] at h
  by_cases h8 : c = 10 ∨ c = 11
  · rw [if_pos h8] at h
    obtain ⟨T1, rfl, rfl⟩ := pe_p2_sp h
    obtain ⟨b, S1, rfl, g1, g2⟩ := pe_ok_cons hS
    obtain ⟨a, S2, rfl, g3, g4⟩ := pe_ok_cons g2
    simp only [if_neg h5]
    have := pe_jn_rg (c := c) (by omega) g3 g1 (Or.inr ⟨by omega, rfl⟩)
    exact ⟨⟨this.1.1, this.1.2, fun z => this.2 (by omega)⟩, g4⟩
  rw [if_neg h8] at h
  cases h
theorem pe_run_ok {kind : Nat} {env : Nat → Int} {of : Nat → Int → Int} (hE : pe_env kind env of) : ∀ {P T T' : List Nat} {S : List Int}, pe_ok T S → pe_wt kind P T = some T' → pe_ok T' (pe_run env of P S)
  | [], _, _, _, hS, h => by
    cases h
    exact hS
  | c :: P, T, T', S, hS, h => by
    obtain ⟨T1, h1, h2⟩ := sw_bnd h
    exact pe_run_ok hE (P := P) (pe_st_ok hE hS h1) h2
theorem pe_wt_app {kind : Nat} : ∀ {P Q T T1 : List Nat}, pe_wt kind P T = some T1 → pe_wt kind (P ++ Q) T = pe_wt kind Q T1
  | [], _, _, _, h => by
    cases h
    rfl
  | c :: P, Q, T, T1, h => by
    obtain ⟨T2, h1, h2⟩ := sw_bnd h
    show (pe_ty kind c T).bind (pe_wt kind (P ++ Q)) = _
    rw [h1]
    exact pe_wt_app (P := P) h2
theorem pe_run_app {env : Nat → Int} {of : Nat → Int → Int} : ∀ {P Q : List Nat} {S : List Int}, pe_run env of (P ++ Q) S = pe_run env of Q (pe_run env of P S)
  | [], _, _ => rfl
  | _ :: P, _, _ => pe_run_app (P := P)
/-- only parts that stand in the text count -/
theorem pe_run_cong {kind : Nat} {env env' : Nat → Int} {of of' : Nat → Int → Int} (h1 : ∀ v, pe_al kind v = true → env v = env' v) (h2 : kind = 3 → ∀ v a, of v a = of' v a) : ∀ {P T T' : List Nat} {S : List Int}, pe_wt kind P T = some T' → pe_run env of P S = pe_run env' of' P S
  | [], _, _, _, _ => rfl
  | c :: P, T, T', S, h => by
    obtain ⟨T1, e1, e2⟩ := sw_bnd h
    show pe_run env of P (pe_st env of c S) = pe_run env' of' P (pe_st env' of' c S)
    have : pe_st env of c S = pe_st env' of' c S := by
      unfold pe_st
      unfold pe_ty at e1
      by_cases g1 : 1000 ≤ c
      · rw [if_pos g1, if_pos g1]
      rw [if_neg g1, if_neg g1]
      rw [if_neg g1] at e1
      by_cases g2 : 60 ≤ c
      · rw [if_pos g2, if_pos g2]
        rw [if_pos g2] at e1
        have hk : kind = 3 := (sw_ifs e1).1.1
        cases S with
        | nil => rfl
        | cons a S1 =>
          show of (c - 60) a :: S1 = of' (c - 60) a :: S1
          rw [h2 hk]
      rw [if_neg g2, if_neg g2]
      rw [if_neg g2] at e1
      by_cases g3 : 40 ≤ c
      · rw [if_pos g3, if_pos g3]
        rw [if_pos g3] at e1
        rw [h1 _ (sw_ifs e1).1.1]
      rw [if_neg g3, if_neg g3]
    rw [this]
    exact pe_run_cong h1 h2 e2

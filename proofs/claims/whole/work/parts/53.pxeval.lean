/-! The class's reckoner tells what codes tell. -/
def px_xc (c : Nat) : Nat := if 1000 ≤ c then c - 1000 else if 60 ≤ c then 10022 + (c - 60) else if 40 ≤ c then 10000 + (c - 40) else if c = 13 then 1 else if c = 12 then 10021 else if c ≤ 4 then 10009 + c else if c ≤ 6 then 10012 + c else if c ≤ 9 then 10007 + c else 10009 + c
def px_sk (σ : sw_St) : List Int → Prop
  | [] => True
  | v :: S => (σ.1 36 S.length).toInt = v ∧ px_sk σ S
theorem px_sk_cong {σ σ' : sw_St} : ∀ {S : List Int}, (∀ k, k < S.length → σ'.1 36 k = σ.1 36 k) → px_sk σ S → px_sk σ' S
  | [], _, _ => trivial
  | v :: S, h, hs => ⟨by rw [h _ (by simp)]; exact hs.1, px_sk_cong (fun k hk => h k (by simp; omega)) hs.2⟩
theorem px_sk_app {σ : sw_St} {B : List Int} : ∀ {S : List Int}, px_sk σ (S ++ B) → px_sk σ B
  | [], h => h
  | _ :: S, h => px_sk_app (S := S) h.2
theorem px_toI {y : Int64} (h1 : -2147483648 ≤ y.toInt) (h2 : y.toInt < 2147483648) : y.toInt32.toInt = y.toInt := by
  rw [Int64.toInt_toInt32, fb_bmod h1 h2]
theorem px_wide (x : Int32) : x.toInt64.toInt = x.toInt := Int32.toInt_toInt64 x
theorem px_push {σ : sw_St} {S : List Int} {y : Int64} (hs : px_sk σ S) (ht : σ.1 34 2 = nI S.length) (hl : S.length < 256) :
    ∃ σ', F_X7_push σ y = some ((), σ') ∧ px_sk σ' (pe_clip y.toInt :: S) ∧ σ'.1 34 2 = nI (S.length + 1) ∧ pz_sm [34, 36] σ σ' := by
  have hn : ¬ (256 : Int32) ≤ nI S.length := by
    rw [show (256 : Int32) = nI 256 from rfl, nI_leI (by omega) (by omega)]
    omega
  have hi : sw_inb (nI S.length) 256 = true := pz_inb hl (by omega)
  have key : ∃ x : Int32, x.toInt = pe_clip y.toInt ∧ F_X7_push σ y = some ((), sw_uI (sw_uI σ 36 S.length x) 34 2 (nI (S.length + 1))) := by
    unfold F_X7_push S_X7_push_48 S_X7_push_59
    rw [ht, if_neg hn, nI_clamp (by omega), nI_1]
    simp only [hi, if_true]
    have e1 : (1000000 : Int64).toInt = 1000000 := by decide
    have e2 : (-1000000 : Int64).toInt = -1000000 := by decide
    have e3 : (1000000 : Int32).toInt = 1000000 := by decide
    have e4 : (-1000000 : Int32).toInt = -1000000 := by decide
    by_cases h1 : lg_cmp y 1000000 ≤ 0
    · have g1 := (lg_cmp_le _ _).mp h1
      rw [fa_le64, e1] at g1
      rw [if_pos h1]
      by_cases h2 : 0 ≤ lg_cmp y (-1000000)
      · have g2 := (lg_cmp_ge _ _).mp h2
        rw [fa_le64, e2] at g2
        rw [if_pos h2]
        exact ⟨_, by rw [px_toI (by omega) (by omega), pe_clip_id g2 g1], rfl⟩
      · have g2 : ¬ (-1000000 : Int64) ≤ y := fun z => h2 ((lg_cmp_ge _ _).mpr z)
        rw [fa_le64, e2] at g2
        rw [if_neg h2]
        exact ⟨_, by rw [e4, pe_clip, if_neg (by omega), if_pos (by omega)], rfl⟩
    · have g1 : ¬ y ≤ 1000000 := fun z => h1 ((lg_cmp_le _ _).mpr z)
      rw [fa_le64, e1] at g1
      rw [if_neg h1]
      exact ⟨_, by rw [e3, pe_clip, if_pos (by omega)], rfl⟩
  obtain ⟨x, hx, he⟩ := key
  refine ⟨_, he, ⟨?_, ?_⟩, ?_, ?_⟩
  · rw [pz_Io (by decide), pz_Ie rfl rfl, hx]
  · exact px_sk_cong (fun k hk => by rw [pz_Io (by decide), pz_Ik (by omega)]) hs
  · exact pz_Ie rfl rfl
  · exact ((pz_sm.refl _ σ).I (by decide) _ _).I (by decide) _ _
theorem px_pop {σ : sw_St} {S : List Int} {v : Int} (hs : px_sk σ (v :: S)) (ht : σ.1 34 2 = nI (S.length + 1)) (hl : S.length < 256) :
    ∃ x σ', x.toInt = v ∧ F_X7_pop σ = some (x, σ') ∧ px_sk σ' S ∧ σ'.1 34 2 = nI S.length ∧ pz_sm [34, 36] σ σ' := by
  have hn : ¬ nI (S.length + 1) = 0 := nI_ne0 (by omega) (by omega)
  refine ⟨σ.1 36 S.length, sw_uI σ 34 2 (nI S.length), hs.1, ?_, ?_, pz_Ie rfl rfl, (pz_sm.refl _ σ).I (by decide) _ _⟩
  · unfold F_X7_pop
    rw [ht, if_neg hn, nI_pred, if_pos (pz_inb hl (by omega)), nI_clamp (by omega)]
  · exact px_sk_cong (fun k hk => by rw [pz_Io (by decide)]) hs.2
theorem px_xor (x y : Int32) : 0 ≤ x ^^^ y ↔ ((x.toInt < 0) ↔ (y.toInt < 0)) := by
  have h : ∀ z : Int32, z.toInt < 0 ↔ z.toBitVec.msb = true := fun z => by
    rw [BitVec.msb_eq_toInt]
    simp only [decide_eq_true_eq]
    exact Iff.rfl
  have h2 : 0 ≤ x ^^^ y ↔ ¬ (x ^^^ y).toInt < 0 := by
    rw [fa_le, show (0 : Int32).toInt = 0 from by decide]
    omega
  rw [h2, h, h, h, Int32.toBitVec_xor, BitVec.msb_xor]
  cases x.toBitVec.msb <;> cases y.toBitVec.msb <;> simp
theorem px_div {x y : Int32} (hx : -1000000 ≤ x.toInt ∧ x.toInt ≤ 1000000) : (x / y).toInt = x.toInt.tdiv y.toInt := by
  have := pe_tdiv_rng (b := y.toInt) hx
  rw [Int32.toInt_div, fb_bmod (by omega) (by omega)]
theorem px_fd {σ : sw_St} {x y : Int32} (hx : -1000000 ≤ x.toInt ∧ x.toInt ≤ 1000000) (hy : ¬ y = 0) : ∃ r, F_J9_floorDiv_7cf53 σ x y = some (r, σ) ∧ r.toInt = pe_fd x.toInt y.toInt := by
  have h1 := pe_tdiv_rng (b := y.toInt) hx
  have h2 := px_div (y := y) hx
  have hy0 : y.toInt ≠ 0 := fun z => hy (by rw [fa_eq]; exact z)
  have h3 : ((x / y) * y = x) ↔ x.toInt.tmod y.toInt = 0 := by
    have e := Int.tmod_add_mul_tdiv x.toInt y.toInt
    have hm : x.toInt.natAbs = (x.toInt.tmod y.toInt).natAbs + ((x.toInt.tdiv y.toInt) * y.toInt).natAbs ∨ True := Or.inr trivial
    have hb : -2147483648 ≤ (x / y).toInt * y.toInt ∧ (x / y).toInt * y.toInt < 2147483648 := by
      rw [h2]
      have q1 : ((x.toInt.tdiv y.toInt) * y.toInt).natAbs ≤ x.toInt.natAbs := by
        rw [Int.natAbs_mul, Int.natAbs_tdiv]
        exact Nat.div_mul_le_self _ _
      omega
    rw [fa_eq, fb_mulI hb.1 hb.2, h2, Int.mul_comm]
    omega
  unfold F_J9_floorDiv_7cf53 S_J9_floorDiv_7cf53_21 pe_fd
  rw [if_pos hy, if_neg hy0]
  by_cases g1 : 0 ≤ x ^^^ y
  · rw [if_pos g1]
    refine ⟨_, rfl, ?_⟩
    rw [h2, if_neg (fun z => z.2 ((px_xor x y).mp g1))]
  · rw [if_neg g1]
    by_cases g2 : x / y * y = x
    · rw [if_pos g2]
      refine ⟨_, rfl, ?_⟩
      rw [h2, if_neg (fun z => z.1 (h3.mp g2))]
    · rw [if_neg g2]
      refine ⟨_, rfl, ?_⟩
      rw [if_pos ⟨fun z => g2 (h3.mpr z), fun z => g1 ((px_xor x y).mpr z)⟩, fb_subI, h2]
      · rfl
      · rw [h2]; rw [show (1 : Int32).toInt = 1 from by decide]; omega
      · rw [h2]; rw [show (1 : Int32).toInt = 1 from by decide]; omega
theorem px_mulB {a b : Int} (ha : -1000000 ≤ a ∧ a ≤ 1000000) (hb : -1000000 ≤ b ∧ b ≤ 1000000) : -1000000000000 ≤ a * b ∧ a * b ≤ 1000000000000 := by
  have h1 : (a * b).natAbs ≤ 1000000 * 1000000 := by
    rw [Int.natAbs_mul]
    exact Nat.mul_le_mul (by omega) (by omega)
  omega
/-- a code that joins two -/
theorem px_join {σ : sw_St} {R : List Int} {a b : Int} {c t : Nat} (hs : px_sk σ (b :: a :: R)) (ht : σ.1 34 2 = nI (R.length + 2)) (hl : R.length + 2 < 256) (hc : 1 ≤ c ∧ c ≤ 11) (ha : pe_vt t a) (hb : pe_vt t b) (ht2 : (c ≤ 9 ∧ t = 0) ∨ (9 < c ∧ t = 1)) :
    ∃ σ', F_X7_step σ (nI (px_xc c)) = some ((), σ') ∧ px_sk σ' (pe_jn c a b :: R) ∧ σ'.1 34 2 = nI (R.length + 1) ∧ pz_sm [34, 36] σ σ' := by
  obtain ⟨x1, σ1, e1, f1, k1, t1, m1⟩ := px_pop (S := a :: R) hs ht (by simp; omega)
  obtain ⟨x2, σ2, e2, f2, k2, t2, m2⟩ := px_pop (S := R) k1 t1 (by omega)
  have m12 := m1.trans m2
  obtain ⟨a1, a2, a3⟩ := ha
  obtain ⟨b1, b2, b3⟩ := hb
  have fin : ∀ y : Int64, y.toInt = pe_jn c a b → (-1000000 ≤ pe_jn c a b ∧ pe_jn c a b ≤ 1000000) → ∃ σ', F_X7_push σ2 y = some ((), σ') ∧ px_sk σ' (pe_jn c a b :: R) ∧ σ'.1 34 2 = nI (R.length + 1) ∧ pz_sm [34, 36] σ σ' := fun y hy hr => by
    obtain ⟨σ3, p1, p2, p3, p4⟩ := px_push (y := y) k2 t2 (by omega)
    rw [hy, pe_clip_id hr.1 hr.2] at p2
    exact ⟨σ3, p1, p2, p3, m12.trans p4⟩
  have fin2 : ∀ y : Int64, pe_clip y.toInt = pe_jn c a b → ∃ σ', F_X7_push σ2 y = some ((), σ') ∧ px_sk σ' (pe_jn c a b :: R) ∧ σ'.1 34 2 = nI (R.length + 1) ∧ pz_sm [34, 36] σ σ' := fun y hy => by
    obtain ⟨σ3, p1, p2, p3, p4⟩ := px_push (y := y) k2 t2 (by omega)
    rw [hy] at p2
    exact ⟨σ3, p1, p2, p3, m12.trans p4⟩
  have hjb : -1000000 ≤ pe_jn c a b ∧ pe_jn c a b ≤ 1000000 := (pe_jn_rg hc ⟨a1, a2, a3⟩ ⟨b1, b2, b3⟩ ht2).1
  have w1 := px_wide x1
  have w2 := px_wide x2
  rw [e1] at w1
  rw [e2] at w2
  have l1 : (1 : Int64).toInt = 1 := by decide
  have l0 : (0 : Int64).toInt = 0 := by decide
  have k1 : c = 1 ∨ c = 2 ∨ c = 3 ∨ c = 4 ∨ c = 5 ∨ c = 6 ∨ c = 7 ∨ c = 8 ∨ c = 9 ∨ c = 10 ∨ c = 11 := by omega
  rcases k1 with rfl | rfl | rfl | rfl | rfl | rfl | rfl | rfl | rfl | rfl | rfl
  · obtain ⟨σ3, p1, p2⟩ := fin2 (x2.toInt64 + x1.toInt64) (by rw [fb_addL (by omega) (by omega), w1, w2, pe_j1])
    refine ⟨σ3, ?_, p2⟩
    show F_X7_step σ 10010 = _
    unfold F_X7_step S_X7_step_247
    rw [if_pos (by decide), f1]; dsimp only [Option.bind]; rw [if_neg (by decide), f2]; dsimp only [Option.bind]
    rw [if_pos (by decide), p1]
  · obtain ⟨σ3, p1, p2⟩ := fin2 (x2.toInt64 - x1.toInt64) (by rw [fb_subL (by omega) (by omega), w1, w2, pe_j2])
    refine ⟨σ3, ?_, p2⟩
    show F_X7_step σ 10011 = _
    unfold F_X7_step S_X7_step_247
    rw [if_pos (by decide), f1]; dsimp only [Option.bind]; rw [if_neg (by decide), f2]; dsimp only [Option.bind]
    rw [if_neg (by decide), if_pos (by decide), p1]
  · have hmb := px_mulB ⟨a1, a2⟩ ⟨b1, b2⟩
    obtain ⟨σ3, p1, p2⟩ := fin2 (x2.toInt64 * x1.toInt64) (by rw [fb_mulL (by rw [w1, w2]; omega) (by rw [w1, w2]; omega), w1, w2, pe_j3])
    refine ⟨σ3, ?_, p2⟩
    show F_X7_step σ 10012 = _
    unfold F_X7_step S_X7_step_247
    rw [if_pos (by decide), f1]; dsimp only [Option.bind]; rw [if_neg (by decide), f2]; dsimp only [Option.bind]
    rw [if_neg (by decide), if_neg (by decide), if_pos (by decide), p1]
  · show ∃ σ', F_X7_step σ 10013 = _ ∧ _
    unfold F_X7_step S_X7_step_167 S_X7_step_247
    rw [if_pos (by decide), f1]; dsimp only [Option.bind]; rw [if_neg (by decide), f2]; dsimp only [Option.bind]
    rw [if_neg (by decide), if_neg (by decide), if_neg (by decide), if_pos (by decide)]
    by_cases hz : x1 = 0
    · rw [if_pos hz]
      have hb0 : b = 0 := by rw [← e1, hz]; decide
      obtain ⟨σ3, p1, p2⟩ := fin 0 (by rw [hb0, pe_j4, l0]; unfold pe_fd; rw [if_pos rfl]) hjb
      exact ⟨σ3, by rw [p1], p2⟩
    · rw [if_neg hz]
      obtain ⟨r, q1, q2⟩ := px_fd (σ := σ2) (x := x2) (y := x1) (by rw [e2]; exact ⟨a1, a2⟩) hz
      rw [e1, e2] at q2
      obtain ⟨σ3, p1, p2⟩ := fin r.toInt64 (by rw [px_wide, q2, pe_j4]) hjb
      exact ⟨σ3, by rw [q1]; dsimp only [Option.bind]; rw [p1], p2⟩
  · show ∃ σ', F_X7_step σ 10017 = _ ∧ _
    unfold F_X7_step S_X7_step_224 F_J9_min_7cf53 S_J9_min_7cf53_10 S_X7_step_247
    rw [if_pos (by decide), f1]; dsimp only [Option.bind]; rw [if_neg (by decide), f2]; dsimp only [Option.bind]
    rw [if_neg (by decide), if_neg (by decide), if_neg (by decide), if_neg (by decide), if_neg (by decide), if_neg (by decide), if_neg (by decide), if_pos (by decide)]
    by_cases hz : x1 < x2
    · rw [if_pos hz]
      obtain ⟨σ3, p1, p2⟩ := fin x1.toInt64 (by rw [fa_lt, e1, e2] at hz; rw [w1]; rw [pe_j5]; rw [if_neg (by omega)]) hjb
      exact ⟨σ3, by dsimp only [Option.bind]; rw [p1], p2⟩
    · rw [if_neg hz]
      obtain ⟨σ3, p1, p2⟩ := fin x2.toInt64 (by rw [fa_lt, e1, e2] at hz; rw [w2]; rw [pe_j5]; split <;> omega) hjb
      exact ⟨σ3, by dsimp only [Option.bind]; rw [p1], p2⟩
  · show ∃ σ', F_X7_step σ 10018 = _ ∧ _
    unfold F_X7_step S_X7_step_237 F_J9_max_7cf53 S_J9_max_7cf53_10 S_X7_step_247
    rw [if_pos (by decide), f1]; dsimp only [Option.bind]; rw [if_neg (by decide), f2]; dsimp only [Option.bind]
    rw [if_neg (by decide), if_neg (by decide), if_neg (by decide), if_neg (by decide), if_neg (by decide), if_neg (by decide), if_neg (by decide), if_neg (by decide), if_pos (by decide)]
    by_cases hz : x2 < x1
    · rw [if_pos hz]
      obtain ⟨σ3, p1, p2⟩ := fin x1.toInt64 (by rw [fa_lt, e1, e2] at hz; rw [w1]; rw [pe_j6]; rw [if_neg (by omega)]) hjb
      exact ⟨σ3, by dsimp only [Option.bind]; rw [p1], p2⟩
    · rw [if_neg hz]
      obtain ⟨σ3, p1, p2⟩ := fin x2.toInt64 (by rw [fa_lt, e1, e2] at hz; rw [w2]; rw [pe_j6]; split <;> omega) hjb
      exact ⟨σ3, by dsimp only [Option.bind]; rw [p1], p2⟩
  · show ∃ σ', F_X7_step σ 10014 = _ ∧ _
    unfold F_X7_step S_X7_step_184 S_X7_step_247
    rw [if_pos (by decide), f1]; dsimp only [Option.bind]; rw [if_neg (by decide), f2]; dsimp only [Option.bind]
    rw [if_neg (by decide), if_neg (by decide), if_neg (by decide), if_neg (by decide), if_pos (by decide)]
    by_cases hz : x1 ≤ x2
    · rw [if_pos hz]
      obtain ⟨σ3, p1, p2⟩ := fin 0 (by rw [fa_le, e1, e2] at hz; rw [l0]; rw [pe_j7]; rw [if_neg (by omega)]) hjb
      exact ⟨σ3, by rw [p1], p2⟩
    · rw [if_neg hz]
      obtain ⟨σ3, p1, p2⟩ := fin 1 (by rw [fa_le, e1, e2] at hz; rw [l1]; rw [pe_j7]; rw [if_pos (by omega)]) hjb
      exact ⟨σ3, by rw [p1], p2⟩
  · show ∃ σ', F_X7_step σ 10015 = _ ∧ _
    unfold F_X7_step S_X7_step_201 S_X7_step_247
    rw [if_pos (by decide), f1]; dsimp only [Option.bind]; rw [if_neg (by decide), f2]; dsimp only [Option.bind]
    rw [if_neg (by decide), if_neg (by decide), if_neg (by decide), if_neg (by decide), if_neg (by decide), if_pos (by decide)]
    by_cases hz : x2 ≤ x1
    · rw [if_pos hz]
      obtain ⟨σ3, p1, p2⟩ := fin 0 (by rw [fa_le, e1, e2] at hz; rw [l0]; rw [pe_j8]; rw [if_neg (by omega)]) hjb
      exact ⟨σ3, by rw [p1], p2⟩
    · rw [if_neg hz]
      obtain ⟨σ3, p1, p2⟩ := fin 1 (by rw [fa_le, e1, e2] at hz; rw [l1]; rw [pe_j8]; rw [if_pos (by omega)]) hjb
      exact ⟨σ3, by rw [p1], p2⟩
  · show ∃ σ', F_X7_step σ 10016 = _ ∧ _
    unfold F_X7_step S_X7_step_218 S_X7_step_247
    rw [if_pos (by decide), f1]; dsimp only [Option.bind]; rw [if_neg (by decide), f2]; dsimp only [Option.bind]
    rw [if_neg (by decide), if_neg (by decide), if_neg (by decide), if_neg (by decide), if_neg (by decide), if_neg (by decide), if_pos (by decide)]
    by_cases hz : x2 = x1
    · rw [if_pos hz]
      obtain ⟨σ3, p1, p2⟩ := fin 1 (by rw [fa_eq, e1, e2] at hz; rw [l1]; rw [pe_j9]; rw [if_pos (by omega)]) hjb
      exact ⟨σ3, by rw [p1], p2⟩
    · rw [if_neg hz]
      obtain ⟨σ3, p1, p2⟩ := fin 0 (by rw [fa_eq, e1, e2] at hz; rw [l0]; rw [pe_j9]; rw [if_neg (by omega)]) hjb
      exact ⟨σ3, by rw [p1], p2⟩
  · have ht1 : t = 1 := by omega
    have ha := a3 ht1
    have hb := b3 ht1
    have hj := pe_j10 a b
    show ∃ σ', F_X7_step σ 10019 = _ ∧ _
    unfold F_X7_step S_X7_step_224 F_J9_min_7cf53 S_J9_min_7cf53_10 S_X7_step_247
    rw [if_pos (by decide), f1]; dsimp only [Option.bind]; rw [if_neg (by decide), f2]; dsimp only [Option.bind]
    rw [if_neg (by decide), if_neg (by decide), if_neg (by decide), if_neg (by decide), if_neg (by decide), if_neg (by decide), if_neg (by decide), if_neg (by decide), if_neg (by decide), if_pos (by decide)]
    by_cases hz : x1 < x2
    · rw [if_pos hz]
      obtain ⟨σ3, p1, p2⟩ := fin x1.toInt64 (by rw [fa_lt, e1, e2] at hz; rw [w1, hj]; rcases ha with rfl | rfl <;> rcases hb with rfl | rfl <;> omega) hjb
      exact ⟨σ3, by dsimp only [Option.bind]; rw [p1], p2⟩
    · rw [if_neg hz]
      obtain ⟨σ3, p1, p2⟩ := fin x2.toInt64 (by rw [fa_lt, e1, e2] at hz; rw [w2, hj]; rcases ha with rfl | rfl <;> rcases hb with rfl | rfl <;> omega) hjb
      exact ⟨σ3, by dsimp only [Option.bind]; rw [p1], p2⟩
  · have ht1 : t = 1 := by omega
    have ha := a3 ht1
    have hb := b3 ht1
    have hj := pe_j11 a b
    show ∃ σ', F_X7_step σ 10020 = _ ∧ _
    unfold F_X7_step S_X7_step_237 F_J9_max_7cf53 S_J9_max_7cf53_10 S_X7_step_247
    rw [if_pos (by decide), f1]; dsimp only [Option.bind]; rw [if_neg (by decide), f2]; dsimp only [Option.bind]
    rw [if_neg (by decide), if_neg (by decide), if_neg (by decide), if_neg (by decide), if_neg (by decide), if_neg (by decide), if_neg (by decide), if_neg (by decide), if_neg (by decide), if_neg (by decide)]
    by_cases hz : x2 < x1
    · rw [if_pos hz]
      obtain ⟨σ3, p1, p2⟩ := fin x1.toInt64 (by rw [fa_lt, e1, e2] at hz; rw [w1, hj]; rcases ha with rfl | rfl <;> rcases hb with rfl | rfl <;> simp at hz ⊢) hjb
      exact ⟨σ3, by dsimp only [Option.bind]; rw [p1], p2⟩
    · rw [if_neg hz]
      obtain ⟨σ3, p1, p2⟩ := fin x2.toInt64 (by rw [fa_lt, e1, e2] at hz; rw [w2, hj]; rcases ha with rfl | rfl <;> rcases hb with rfl | rfl <;> simp at hz ⊢) hjb
      exact ⟨σ3, by dsimp only [Option.bind]; rw [p1], p2⟩

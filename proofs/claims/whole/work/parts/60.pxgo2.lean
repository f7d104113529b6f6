/-! The class: where a sheep goes, days of one sheep. -/
theorem px_bitF {n k : Nat} (hn : n < 2 ^ 31) (hk : k < 31) : ((nI n >>> (nI k &&& 31)) &&& 1 = 0 ↔ n.testBit k = false) := by
  have h := Nat.testBit_eq_decide_div_mod_eq (x := n) (i := k)
  rw [pz_bit hn hk, h, decide_eq_false_iff_not, show (0 : Int32) = nI 0 from rfl, nI_eq (by omega) (by omega)]
  omega
theorem px_luring {σ : sw_St} {w q day opn cur s o4 N fr : Nat} {row : Nat → Nat} {l : Nat → Nat → Nat} {P : Nat → List Nat} {B : List Int} {x3 : Int32} {m : Nat → Bool} (hg : g_ld l P) (hl : px_ld σ w l P) (hv : px_vw σ q day opn cur row s) (hr : g_rk cur row) (hd : day ≤ 100000) (hf : row 0 < l 0 0) (hB : B.length ≤ 100) (hsk : px_sk σ B) (htp : σ.1 34 2 = nI B.length) (ho4 : o4 = 37 ∧ N = 10 ∨ o4 = 56 ∧ N = 210) (hfr : fr + 10 ≤ N) (hm : ∀ k, k < 10 → ((x3 >>> (nI k &&& 31)) &&& 1 = 0 ↔ m k = false)) :
    ∃ σ', F_X2_luring σ q (nI s) x3 o4 (nI fr) = some (nI (if g_stays l P day cur row s = true then 0 else g_bits (fun j => decide (0 < g_pull l P m day cur row s j)) (l 0 1)), σ') ∧ (g_stays l P day cur row s = false → ∀ j, j < l 0 1 → 0 < g_pull l P m day cur row s j → (σ'.1 o4 (fr + j)).toInt = g_pull l P m day cur row s j) ∧ (∀ i, i < fr ∨ fr + 10 ≤ i → σ'.1 o4 i = σ.1 o4 i) ∧ pz_sm [34, 35, 36, o4] σ σ' ∧ px_sk σ' B ∧ σ'.1 34 2 = nI B.length := by
  obtain ⟨σ1, s1, s2, s3⟩ := px_setSheep l hv
  have hq := hv.1
  have hs := hv.2.1
  have hi : sw_inb (nI s) 6 = true := pz_inb (by omega) (by omega)
  have hl1 := hl.mv s2 (by decide)
  have hv1 := hv.mv s2 (by intro o ho; simp at ho; omega)
  have m2 : pz_sm [35] σ1 (sw_uI (sw_uI σ1 35 3 (nI (l 1 (row 0)))) 35 4 (nI (row (4 + row 0)))) := ((pz_sm.refl _ σ1).I (by decide) _ _).I (by decide) _ _
  have hl2 := hl1.mv m2 (by decide)
  have hv2 := hv1.mv m2 (by intro o ho; simp at ho; omega)
  have hsk2 : px_sk (sw_uI (sw_uI σ1 35 3 (nI (l 1 (row 0)))) 35 4 (nI (row (4 + row 0)))) B := px_sk_cong (fun j _ => by rw [m2.r (by decide), s2.r (by decide)]) hsk
  have htp2 : (sw_uI (sw_uI σ1 35 3 (nI (l 1 (row 0)))) 35 4 (nI (row (4 + row 0)))).1 34 2 = nI B.length := by rw [m2.r (by decide), s2.r (by decide)]; exact htp
  have hE : pe_env 1 (g_env l day cur row s (row 0) 0) g_of := g_envok hg hr hd hs (fun _ => hf) (by omega) (by omega)
  have hvv : ∀ v, pe_al 1 v = true → ((sw_uI (sw_uI σ1 35 3 (nI (l 1 (row 0)))) 35 4 (nI (row (4 + row 0)))).1 35 v).toInt = g_env l day cur row s (row 0) 0 v := fun v hv' => by
    have hb1 := hE.1 v hv'
    have h5 : v ≠ 5 := fun z => by rw [z] at hv'; simp [pe_al] at hv'
    have e : (sw_uI (sw_uI σ1 35 3 (nI (l 1 (row 0)))) 35 4 (nI (row (4 + row 0)))).1 35 v = nI (g_en l day cur row s (row 0) 0 v) := by
      by_cases q4 : v = 4
      · rw [q4, pz_Ie rfl rfl]; rfl
      rw [pz_Ik q4]
      by_cases q3 : v = 3
      · rw [q3, pz_Ie rfl rfl]; rfl
      rw [pz_Ik q3, g_en_alone q3 q4 h5]
      exact s3 v (pe_al_lt hv') q3 q4 h5
    unfold g_env at hb1 ⊢
    rw [e, nI_toInt (by omega)]
  obtain ⟨t, hty⟩ : ∃ t, pe_wt 1 (P 1) [] = some [t] := by
    rcases hg.2.2.2.2.2.2.2.2.1 with h | h
    · exact ⟨1, h⟩
    · exact ⟨0, by rw [h]; rfl⟩
  obtain ⟨a, c1, c2, c3⟩ := hl2.2.2.2.2.2.2.2.2.2 1 (by omega)
  obtain ⟨x, σ3, p1, p2, p3, p4, p5⟩ := px_run (kind := 1) (which := 1) hl.1 (by omega) (by omega) hE hB c3 c1 c2 hvv hty hsk2 htp2
  have hval : g_val (g_env l day cur row s (row 0) 0) (P 1) = x.toInt := by unfold g_val; rw [p2]; rfl
  have m3 : pz_sm [34, 35, 36, o4] σ σ3 := (s2.mono (by simp)).trans ((m2.mono (by simp)).trans (p5.mono (by simp)))
  have eF : F_X2_luring σ q (nI s) x3 o4 (nI fr) = if x = 0 then L_X2_luring_45 sw_fuel σ3 q (nI s) x3 o4 (nI fr) (nI (row 0)) 0 0 else some (0, σ3) := by
    unfold F_X2_luring
    rw [if_pos (st_O hq), if_pos (st_A1 hq), st_n1 hq, if_pos hi, s1]
    dsimp only [Option.bind]
    rw [nI_clamp (by omega), hv.2.2.2.2.1, px_setField hg hl1 hv1 hf]
    dsimp only
    rw [hl2.2.1]
    dsimp only
    rw [show (1 : Int32) = nI 1 from rfl, p1]
  rw [eF]
  have hrow4 : ∀ i, i < fr ∨ fr + 10 ≤ i → σ3.1 o4 i = σ.1 o4 i := fun i _ => by
    have h1 : o4 ∉ [35] := by simp; omega
    have h2 : o4 ∉ [34, 36] := by simp; omega
    rw [p5.r h2, m2.r h1, s2.r h1]
  by_cases hx : x = 0
  · have hst : g_stays l P day cur row s = false := by
      unfold g_stays
      rw [hval, hx]
      rfl
    rw [if_pos hx, hst, if_neg (by decide)]
    have hv3 := hv2.mv p5 (by intro o ho; simp at ho; omega)
    have vs3 : px_vs σ3 l day cur row s := fun v h1 h3 h4 h5 => by
      rw [p5.r (by decide), pz_Ik h4, pz_Ik h3]
      exact s3 v h1 h3 h4 h5
    obtain ⟨σ', q1, q2, q3, q4, q5, q6⟩ := px_lloop hg hr hd hB ho4 hfr hm (l 0 1) sw_fuel 0 σ3 (hl2.mv p5 (by decide)) hv3 vs3 p3 p4 (by omega) (by have := sw_fuel_ge; have := hg.2.1; omega)
    exact ⟨σ', q1, fun _ j h1 h2 => q2 j (by omega) h1 h2, fun i hi => by rw [q3 i (by omega), hrow4 i hi], m3.trans q4, q5, q6⟩
  · have hst : g_stays l P day cur row s = true := by
      unfold g_stays
      rw [hval]
      refine decide_eq_true (fun z => hx ?_)
      rw [fa_eq, z]
      rfl
    rw [if_neg hx, hst, if_pos rfl]
    exact ⟨σ3, rfl, fun z => (by cases z), hrow4, m3, p3, p4⟩
theorem px_mloop {σ : sw_St} {w o4 N fr Bt : Nat} {l : Nat → Nat → Nat} {P : Nat → List Nat} {v : Nat → Int} (hg : g_ld l P) (hl : px_ld σ w l P) (ho4 : o4 = 37 ∧ N = 10 ∨ o4 = 56 ∧ N = 210) (hfr : fr + 10 ≤ N) (hBt : Bt < 2 ^ 31) (hv : ∀ j, j < l 0 1 → Bt.testBit j = true → (σ.1 o4 (fr + j)).toInt = v j ∧ 0 < v j) :
    ∀ (n fuel k : Nat), k + n = l 0 1 → n < fuel → L_X2_mostLuring_6 fuel σ (nI Bt) o4 (nI fr) (oI (g_best (fun j => if Bt.testBit j = true then v j else 0) k).1) (nI k) = some (oI (g_best (fun j => if Bt.testBit j = true then v j else 0) (l 0 1)).1, σ)
  | 0, fuel + 1, k, hk, hf => by
    have g1 := hg.2.1
    show S_X2_mostLuring_6 _ σ (nI Bt) o4 (nI fr) _ (nI k) = _
    unfold S_X2_mostLuring_6 S_X2_mostLuring_68
    rw [hl.2.1]
    dsimp only [Option.bind]
    rw [if_pos (ld_O hl.1), hl.2.2.2.1, if_pos (by rw [nI_leI (by omega) (by omega)]; omega), show k = l 0 1 by omega]
  | n + 1, fuel + 1, k, hk, hf => by
    have g1 := hg.2.1
    have hkl : k < l 0 1 := by omega
    obtain ⟨hA, hAA, hN2⟩ := px_rowA ho4
    have ih := px_mloop hg hl ho4 hfr hBt hv n fuel (k + 1) (by omega) (by omega)
    show S_X2_mostLuring_6 _ σ (nI Bt) o4 (nI fr) _ (nI k) = _
    unfold S_X2_mostLuring_6 S_X2_mostLuring_68 S_X2_mostLuring_58 S_X2_mostLuring_62
    rw [hl.2.1]
    dsimp only [Option.bind]
    rw [if_pos (ld_O hl.1), hl.2.2.2.1, if_neg (by rw [nI_leI (by omega) (by omega)]; omega), if_pos hAA, hN2, nI_add, if_neg (by rw [nI_leI (by omega) (by omega)]; omega), nI_1]
    obtain ⟨s1, s2, s3, s4⟩ := g_best_sp (fun j => if Bt.testBit j = true then v j else 0) k
    by_cases hb : Bt.testBit k = true
    · rw [if_pos ((px_bitT hBt (by omega)).mpr hb)]
      obtain ⟨e1, e2⟩ := hv k hkl hb
      cases hbest : (g_best (fun j => if Bt.testBit j = true then v j else 0) k).1 with
      | none =>
        rw [hbest] at s1
        have e : g_best (fun j => if Bt.testBit j = true then v j else 0) (k + 1) = (some k, v k) := by
          rw [g_best, if_pos (by rw [s1, if_pos hb]; exact e2), if_pos hb]
        rw [if_pos (by rfl)]
        rw [e] at ih
        exact ih
      | some j =>
        rw [hbest] at s1
        obtain ⟨j1, j2⟩ := s3 j hbest
        have hbj : Bt.testBit j = true := by
          cases h : Bt.testBit j
          · rw [h] at j2; simp at j2
          · rfl
        obtain ⟨f1, f2⟩ := hv j (by omega) hbj
        have s1' : (g_best (fun j => if Bt.testBit j = true then v j else 0) k).2 = v j := by rw [s1]; dsimp only; rw [if_pos hbj]
        rw [if_neg (by exact pz_nm1 (by omega)), if_pos hA, if_pos (pz_inb (by omega) (by omega)), if_pos hA, show oI (some j) = nI j from rfl, nI_add, if_pos (pz_inb (by omega) (by omega)), nI_clamp (by omega), nI_clamp (by omega)]
        by_cases hc : σ.1 o4 (fr + k) ≤ σ.1 o4 (fr + j)
        · rw [if_pos hc]
          rw [fa_le, e1, f1] at hc
          have e : g_best (fun j => if Bt.testBit j = true then v j else 0) (k + 1) = g_best (fun j => if Bt.testBit j = true then v j else 0) k := by
            rw [g_best, if_neg (by rw [s1', if_pos hb]; omega)]
          rw [e, hbest] at ih
          exact ih
        · rw [if_neg hc]
          rw [fa_le, e1, f1] at hc
          have e : g_best (fun j => if Bt.testBit j = true then v j else 0) (k + 1) = (some k, v k) := by
            rw [g_best, if_pos (by rw [s1', if_pos hb]; omega), if_pos hb]
          rw [e] at ih
          exact ih
    · rw [if_neg (fun z => hb ((px_bitT hBt (by omega)).mp z))]
      have e : g_best (fun j => if Bt.testBit j = true then v j else 0) (k + 1) = g_best (fun j => if Bt.testBit j = true then v j else 0) k := by
        rw [g_best, if_neg (by rw [if_neg hb]; omega)]
      rw [e] at ih
      exact ih
theorem px_most {σ : sw_St} {w o4 N fr Bt : Nat} {l : Nat → Nat → Nat} {P : Nat → List Nat} {v : Nat → Int} (hg : g_ld l P) (hl : px_ld σ w l P) (ho4 : o4 = 37 ∧ N = 10 ∨ o4 = 56 ∧ N = 210) (hfr : fr + 10 ≤ N) (hBt : Bt < 2 ^ 31) (hv : ∀ j, j < l 0 1 → Bt.testBit j = true → (σ.1 o4 (fr + j)).toInt = v j ∧ 0 < v j) :
    F_X2_mostLuring σ (nI Bt) o4 (nI fr) = some (oI (g_best (fun j => if Bt.testBit j = true then v j else 0) (l 0 1)).1, σ) := by
  unfold F_X2_mostLuring
  exact px_mloop hg hl ho4 hfr hBt hv (l 0 1) sw_fuel 0 (by omega) (by have := sw_fuel_ge; have := hg.2.1; omega)
theorem g_best_pos (v : Nat → Int) : ∀ n, g_best (fun j => if 0 < v j then v j else 0) n = g_best v n
  | 0 => rfl
  | n + 1 => by
    have ih := g_best_pos v n
    have h := (g_best_sp v n).2.1
    unfold g_best
    rw [ih]
    by_cases h1 : 0 < v n
    · simp only [h1, if_true]
    · rw [if_neg h1, if_neg (by omega), if_neg (by omega)]
/-- the gap through which a sheep strays -/
theorem px_choice {σ : sw_St} {w q day opn cur s : Nat} {row : Nat → Nat} {l : Nat → Nat → Nat} {P : Nat → List Nat} {B : List Int} (hg : g_ld l P) (hl : px_ld σ w l P) (hv : px_vw σ q day opn cur row s) (hr : g_rk cur row) (hd : day ≤ 100000) (hf : row 0 < l 0 0) (ho : opn < 1024) (hB : B.length ≤ 100) (hsk : px_sk σ B) (htp : σ.1 34 2 = nI B.length) :
    ∃ (Bt : Int32) (σ1 σ' : sw_St), F_X2_luring σ q (nI s) (nI opn) 37 (nI 0) = some (Bt, σ1) ∧ F_X2_mostLuring σ1 Bt 37 (nI 0) = some (oI (g_choice l P (fun k => opn.testBit k) day cur row s), σ') ∧ pz_sm [34, 35, 36, 37] σ σ' ∧ px_sk σ' B ∧ σ'.1 34 2 = nI B.length := by
  obtain ⟨σ1, p1, p2, p3, p4, p5, p6⟩ := px_luring (o4 := 37) (N := 10) (fr := 0) (x3 := nI opn) (m := fun k => opn.testBit k) hg hl hv hr hd hf hB hsk htp (Or.inl ⟨rfl, rfl⟩) (by omega) (fun k hk => px_bitF (by omega) (by omega))
  have hl1 := hl.mv p4 (by decide)
  have g1 := hg.2.1
  refine ⟨_, σ1, σ1, p1, ?_, p4, p5, p6⟩
  unfold g_choice
  by_cases hs : g_stays l P day cur row s = true
  · have := px_most (o4 := 37) (N := 10) (fr := 0) (Bt := 0) (v := fun _ => 0) hg hl1 (Or.inl ⟨rfl, rfl⟩) (by omega) (by omega) (fun j _ z => by simp at z)
    simp only [if_pos hs]
    rw [this]
    congr 2
    have hz : ∀ n, (g_best (fun j => if (0 : Nat).testBit j = true then (0 : Int) else 0) n) = (none, 0) := fun n => by
      induction n with
      | zero => rfl
      | succ n ih => rw [g_best, ih, if_neg (by simp)]
    rw [hz]
  · have hs2 : g_stays l P day cur row s = false := by cases h : g_stays l P day cur row s; rfl; exact absurd h hs
    have hbl := g_bits_lt (fun j => decide (0 < g_pull l P (fun k => opn.testBit k) day cur row s j)) (l 0 1)
    have hbl2 : 2 ^ (l 0 1) ≤ 2 ^ 10 := Nat.pow_le_pow_right (by omega) g1
    have := px_most (o4 := 37) (N := 10) (fr := 0) (Bt := g_bits (fun j => decide (0 < g_pull l P (fun k => opn.testBit k) day cur row s j)) (l 0 1)) (v := fun j => g_pull l P (fun k => opn.testBit k) day cur row s j) hg hl1 (Or.inl ⟨rfl, rfl⟩) (by omega) (by omega) (fun j hj z => by
      rw [g_bits_at] at z
      simp at z
      exact ⟨p2 hs2 j hj z.2, z.2⟩)
    simp only [if_neg hs]
    rw [this]
    rw [← g_best_pos (g_pull l P (fun k => opn.testBit k) day cur row s)]
    rw [g_best_cong (v' := fun j => if 0 < g_pull l P (fun k => opn.testBit k) day cur row s j then g_pull l P (fun k => opn.testBit k) day cur row s j else 0)]
    intro k hk
    rw [g_bits_at]
    simp [hk]
theorem px_min {σ : sw_St} {a n : Nat} (ha : a < 2 ^ 31) (hn : n < 2 ^ 31) : F_J9_min_7cf53 σ (nI a) (nI n) = some (nI (min a n), σ) := by
  unfold F_J9_min_7cf53 S_J9_min_7cf53_10
  by_cases h : n < a
  · rw [if_pos (by rw [nI_ltI hn ha]; exact h), Nat.min_eq_right (by omega)]
  · rw [if_neg (by rw [nI_ltI hn ha]; exact h), Nat.min_eq_left (by omega)]
theorem px_pass {σ : sw_St} {w q day opn cur s k b : Nat} {row : Nat → Nat} {l : Nat → Nat → Nat} {P : Nat → List Nat} (hg : g_ld l P) (hl : px_ld σ w l P) (hv : px_vw σ q day opn cur row s) (hr : g_rk cur row) (hk : k < l 0 1) (hb : g_bey l k (row 0) = some b) :
    ∃ σ', F_X2_passThrough σ q (nI s) (nI k) = some ((), σ') ∧ px_vw σ' q day opn cur (g_pass l row k) s ∧ pz_sm [q + 1, q + 2, q + 3, q + 6] σ σ' ∧ (∀ s' cur' row', s' ≠ s → px_vw σ q day opn cur' row' s' → px_vw σ' q day opn cur' row' s') ∧ (∀ s', s' ≠ s → σ'.1 (q + 2) s' = σ.1 (q + 2) s') := by
  have hv0 := hv
  obtain ⟨hq, hs, b1, b2, b3, b4, b5, b6, b7, b8⟩ := hv
  have hl0 := hl
  obtain ⟨hw, a1, a2, a3, a4, a5, a6, a7, a8, a9⟩ := hl
  obtain ⟨r1, r2, r3, r4, r5, r6⟩ := hr
  have hb8 := g_bey_lt hg hk hb
  have g1 := hg.2.1
  have hmi := (hg.2.2.2.2.2.1 k hk).2.2.2.1
  have hi : sw_inb (nI s) 6 = true := pz_inb (by omega) (by omega)
  have hik : sw_inb (nI k) 10 = true := pz_inb (by omega) (by omega)
  have hi2 : sw_inb (nI (8 * s + b)) 48 = true := pz_inb (by omega) (by omega)
  have hs6 := r6 b hb8.2
  have cs : s < 2 ^ 31 := by omega
  have c8 : 8 * s + b < 2 ^ 31 := by omega
  have ck : k < 2 ^ 31 := by omega
  have n61 : q + 6 ≠ q + 1 := by omega
  have n26 : q + 2 ≠ q + 6 := by omega
  have n21 : q + 2 ≠ q + 1 := by omega
  have n36 : q + 3 ≠ q + 6 := by omega
  have n31 : q + 3 ≠ q + 1 := by omega
  have n32 : q + 3 ≠ q + 2 := by omega
  have w51 : w + 5 ≠ q + 1 := by omega
  have w56 : w + 5 ≠ q + 6 := by omega
  have m99 : F_J9_min_7cf53 (sw_uI σ (q + 1) s (nI b)) 99 (nI (row (4 + b)) + 1) = some (nI (min 99 (row (4 + b) + 1)), sw_uI σ (q + 1) s (nI b)) := by
    rw [nI_1]; exact px_min (a := 99) (by omega) (by omega)
  have m999 : F_J9_min_7cf53 (sw_uI (sw_uI σ (q + 1) s (nI b)) (q + 6) (8 * s + b) (nI (min 99 (row (4 + b) + 1)))) 999 (nI (row 1) + nI (l 2 (3 * k + 2))) = some (nI (min 999 (row 1 + l 2 (3 * k + 2))), sw_uI (sw_uI σ (q + 1) s (nI b)) (q + 6) (8 * s + b) (nI (min 99 (row (4 + b) + 1)))) := by
    rw [nI_add]; exact px_min (a := 999) (by omega) (by omega)
  have hrem : 3 * nI (row 2) + nI k + 1 - (3 * nI (row 2) + nI k + 1) / 64 * 64 = nI ((3 * row 2 + k + 1) % 64) := by
    rw [show (3 : Int32) = nI 3 from rfl, pk_mul, nI_add, nI_1, show (64 : Int32) = nI 64 from rfl, pk_rem (by omega) (by omega) (by omega)]
  refine ⟨sw_uI (sw_uI (sw_uI (sw_uI σ (q + 1) s (nI b)) (q + 6) (8 * s + b) (nI (min 99 (row (4 + b) + 1)))) (q + 2) s (nI (min 999 (row 1 + l 2 (3 * k + 2))))) (q + 3) s (nI ((3 * row 2 + k + 1) % 64)), ?_, ?_, ?_, ?_, ?_⟩
  · unfold F_X2_passThrough
    rw [a1]
    dsimp only [Option.bind]
    simp only [st_O hq, st_A1 hq, st_n1 hq, hi, ld_O hw, if_true, nI_clamp cs, b3, px_beyond hg hl0 hk r2, hb]
    rw [show oI (some b) = nI b from rfl, if_neg (pz_nm1 (by omega))]
    simp only [st_A6 hq, st_n6 hq, px_ix8, hi2, if_true, nI_clamp c8, pz_Io n61, b8 b hb8.2, m99]
    rw [show (sw_uI σ (q + 1) s (nI b)).2.2 33 0 = some w from a1]
    simp only [st_A2 hq, st_n2 hq, hi, if_true, ld_O hw, ld_A5 hw, ld_n5 hw, hik, nI_clamp ck, pz_Io n26, pz_Io n21, b4, pz_Io w56, pz_Io w51, (a7 k hk).2.2, m999, st_A3 hq, st_n3 hq, pz_Io n32, pz_Io n36, pz_Io n31, b5, hrem]
  · unfold g_pass
    rw [hb]
    refine ⟨hq, hs, ?_, ?_, ?_, ?_, ?_, ?_, ?_, fun f hf => ?_⟩
    · rw [pz_Io (by omega), pz_Io (by omega), pz_Io (by omega), pz_Io (by omega)]; exact b1
    · rw [pz_Io (by omega), pz_Io (by omega), pz_Io (by omega), pz_Io (by omega)]; exact b2
    · rw [pz_Io (by omega), pz_Io (by omega), pz_Io (by omega), pz_Ie rfl rfl]; rfl
    · rw [pz_Io (by omega), pz_Ie rfl rfl]; rfl
    · rw [pz_Ie rfl rfl]; rfl
    · rw [pz_Io (by omega), pz_Io (by omega), pz_Io (by omega), pz_Io (by omega), b6]
      dsimp only
      rw [if_neg (by omega), if_neg (by omega), if_neg (by omega), if_neg (by omega)]
    · rw [pz_Io (by omega), pz_Io (by omega), pz_Io (by omega), pz_Io (by omega)]; exact b7
    · rw [pz_Io (by omega), pz_Io (by omega)]
      dsimp only
      rw [if_neg (by omega), if_neg (by omega), if_neg (by omega)]
      by_cases e : f = b
      · rw [pz_Ie rfl (by omega), if_pos (by omega)]
      · rw [pz_Ik (by omega), pz_Io (by omega), if_neg (by omega)]
        exact b8 f hf
  · exact ((((pz_sm.refl _ σ).I (by simp) _ _).I (by simp) _ _).I (by simp) _ _).I (by simp) _ _
  · intro s' cur' row' hne hv'
    obtain ⟨-, hs', d1, d2, d3, d4, d5, d6, d7, d8⟩ := hv'
    refine ⟨hq, hs', ?_, ?_, ?_, ?_, ?_, ?_, ?_, fun f hf => ?_⟩
    · rw [pz_Io (by omega), pz_Io (by omega), pz_Io (by omega), pz_Io (by omega)]; exact d1
    · rw [pz_Io (by omega), pz_Io (by omega), pz_Io (by omega), pz_Io (by omega)]; exact d2
    · rw [pz_Ik hne, pz_Ik hne, pz_Io (by omega), pz_Ik hne]; exact d3
    · rw [pz_Ik hne, pz_Ik hne, pz_Io (by omega), pz_Ik hne]; exact d4
    · rw [pz_Ik hne, pz_Ik hne, pz_Io (by omega), pz_Ik hne]; exact d5
    · rw [pz_Ik hne, pz_Ik hne, pz_Io (by omega), pz_Ik hne]; exact d6
    · rw [pz_Ik hne, pz_Ik hne, pz_Io (by omega), pz_Ik hne]; exact d7
    · rw [pz_Io (by omega), pz_Io (by omega), pz_Ik (by omega), pz_Io (by omega)]
      exact d8 f hf
  · intro s' hne
    rw [pz_Ik hne, pz_Ik hne, pz_Io (by omega), pz_Ik hne]
/-- days of one sheep alone -/
def g_go (l : Nat → Nat → Nat) (P : Nat → List Nat) (op : Nat → Bool) (cur s : Nat) : Nat → Nat → (Nat → Nat) → (Nat → Nat)
  | 0, _, row => row
  | n + 1, day, row => g_go l P op cur s n (day + 1) (g_step l P op day cur row s)
theorem g_step_f {l : Nat → Nat → Nat} {P : Nat → List Nat} {op : Nat → Bool} {day cur s : Nat} {row : Nat → Nat} (hg : g_ld l P) (hf : row 0 < l 0 0) : g_step l P op day cur row s 0 < l 0 0 := by
  unfold g_step
  cases hk : g_choice l P op day cur row s with
  | none => exact hf
  | some k =>
    obtain ⟨h1, -, b, hb⟩ := g_choice_lt hk
    show g_pass l row k 0 < l 0 0
    unfold g_pass
    rw [hb]
    exact (g_bey_lt hg h1 hb).1
theorem px_goOn {w q opn cur s : Nat} {l : Nat → Nat → Nat} {P : Nat → List Nat} {B : List Int} {N : Nat} (hg : g_ld l P) (ho : opn < 1024) (hB : B.length ≤ 100) (hN : N ≤ 999) : ∀ (n fuel k day : Nat) (row : Nat → Nat) (σ : sw_St), px_ld σ w l P → px_vw σ q day opn cur row s → g_rk cur row → row 0 < l 0 0 → px_sk σ B → σ.1 34 2 = nI B.length → k + n = N → n < fuel → day + n ≤ 999 →
    ∃ σ', L_X2_goOn_3 fuel σ q (nI s) (nI N) (nI k) = some ((), σ') ∧ px_vw σ' q (day + n) opn cur (g_go l P (fun k => opn.testBit k) cur s n day row) s ∧ pz_sm [34, 35, 36, 37, q, q + 1, q + 2, q + 3, q + 6] σ σ' ∧ px_sk σ' B ∧ σ'.1 34 2 = nI B.length
  | 0, fuel + 1, k, day, row, σ, hl, hv, hr, hf, hsk, htp, hk, hfu, hd => by
    refine ⟨σ, ?_, hv, pz_sm.refl _ _, hsk, htp⟩
    show S_X2_goOn_3 _ σ q (nI s) (nI N) (nI k) = _
    unfold S_X2_goOn_3
    rw [if_pos (by rw [nI_leI (by omega) (by omega)]; omega)]
  | n + 1, fuel + 1, k, day, row, σ, hl, hv, hr, hf, hsk, htp, hk, hfu, hd => by
    have hq := hv.1
    -- the day goes by
    have go : ∀ (σ1 : sw_St) (row1 : Nat → Nat), pz_sm [34, 35, 36, 37, q, q + 1, q + 2, q + 3, q + 6] σ σ1 → px_vw σ1 q day opn cur row1 s → g_rk cur row1 → row1 0 < l 0 0 → px_sk σ1 B → σ1.1 34 2 = nI B.length →
        ∃ σ', S_X2_goOn_49 (fun σ o1 x2 x3 x4 => L_X2_goOn_3 fuel σ o1 x2 x3 x4) σ1 q (nI s) (nI N) (nI k) = some ((), σ') ∧ px_vw σ' q (day + (n + 1)) opn cur (g_go l P (fun k => opn.testBit k) cur s n (day + 1) row1) s ∧ pz_sm [34, 35, 36, 37, q, q + 1, q + 2, q + 3, q + 6] σ σ' ∧ px_sk σ' B ∧ σ'.1 34 2 = nI B.length := fun σ1 row1 m1 v1 r1 f1 sk1 tp1 => by
      have hmin : F_J9_min_7cf53 σ1 999 (nI day + 1) = some (nI (day + 1), σ1) := by
        rw [nI_1]
        have := px_min (σ := σ1) (a := 999) (n := day + 1) (by omega) (by omega)
        rw [Nat.min_eq_right (by omega)] at this
        exact this
      have v2 : px_vw (sw_uI σ1 q 0 (nI (day + 1))) q (day + 1) opn cur row1 s := by
        obtain ⟨-, hs, b1, b2, b3, b4, b5, b6, b7, b8⟩ := v1
        refine ⟨hq, hs, pz_Ie rfl rfl, ?_, ?_, ?_, ?_, ?_, ?_, fun f hf => ?_⟩
        · rw [pz_Ik (by omega)]; exact b2
        · rw [pz_Io (by omega)]; exact b3
        · rw [pz_Io (by omega)]; exact b4
        · rw [pz_Io (by omega)]; exact b5
        · rw [pz_Io (by omega)]; exact b6
        · rw [pz_Io (by omega)]; exact b7
        · rw [pz_Io (by omega)]; exact b8 f hf
      have m2 : pz_sm [34, 35, 36, 37, q, q + 1, q + 2, q + 3, q + 6] σ (sw_uI σ1 q 0 (nI (day + 1))) := m1.I (by simp) _ _
      obtain ⟨σ', p1, p2, p3, p4, p5⟩ := px_goOn hg ho hB hN n fuel (k + 1) (day + 1) row1 (sw_uI σ1 q 0 (nI (day + 1))) (hl.mv m2 (by intro o ho; simp at ho; omega)) v2 r1 f1 (px_sk_cong (fun j _ => by rw [pz_Io (by omega)]) sk1) (by rw [pz_Io (by omega)]; exact tp1) (by omega) (by omega) (by omega)
      refine ⟨σ', ?_, by rw [show day + (n + 1) = day + 1 + n by omega]; exact p2, m2.trans p3, p4, p5⟩
      unfold S_X2_goOn_49
      rw [if_pos (st_O hq), v1.2.2.1, hmin]
      dsimp only [Option.bind]
      rw [if_pos (st_O hq), nI_1]
      exact p1
    obtain ⟨Bt, σ1, σ2, c1, c2, c3, c4, c5⟩ := px_choice hg hl hv hr (by omega) hf ho hB hsk htp
    have hl2 := hl.mv c3 (by decide)
    have hv2 := hv.mv c3 (by intro o ho; simp at ho; omega)
    have m0 : pz_sm [34, 35, 36, 37, q, q + 1, q + 2, q + 3, q + 6] σ σ2 := c3.mono (by intro o ho; simp at ho ⊢; omega)
    show ∃ σ', S_X2_goOn_3 _ σ q (nI s) (nI N) (nI k) = _ ∧ _
    unfold S_X2_goOn_3
    rw [if_neg (by rw [nI_leI (by omega) (by omega)]; omega), if_pos (st_O hq), hv.2.2.2.1]
    rw [show (0 : Int32) = nI 0 from rfl, c1]
    dsimp only [Option.bind]
    rw [c2]
    dsimp only
    show ∃ σ', _ ∧ px_vw σ' q (day + (n + 1)) opn cur (g_go l P (fun k => opn.testBit k) cur s n (day + 1) (g_step l P (fun k => opn.testBit k) day cur row s)) s ∧ _
    cases hc : g_choice l P (fun k => opn.testBit k) day cur row s with
    | none =>
      have e : g_step l P (fun k => opn.testBit k) day cur row s = row := by unfold g_step; rw [hc]
      rw [if_pos (by rfl), e]
      exact go σ2 row m0 hv2 hr hf c4 c5
    | some kk =>
      obtain ⟨h1, -, b, hb⟩ := g_choice_lt hc
      have g1 := hg.2.1
      have e : g_step l P (fun k => opn.testBit k) day cur row s = g_pass l row kk := by unfold g_step; rw [hc]
      obtain ⟨σ3, p1, p2, p3, -, -⟩ := px_pass hg hl2 hv2 hr h1 hb
      rw [if_neg (by exact pz_nm1 (by omega)), show oI (some kk) = nI kk from rfl, p1, e]
      dsimp only
      refine go σ3 _ (m0.trans (p3.mono (by intro o ho; simp at ho ⊢; omega))) p2 (g_pass_rk hg h1 hr) ?_ (px_sk_cong (fun j _ => by rw [p3.r (by simp; omega)]) c4) (by rw [p3.r (by simp; omega)]; exact c5)
      unfold g_pass
      rw [hb]
      exact (g_bey_lt hg h1 hb).1
theorem px_worth {σ : sw_St} {w q day opn cur s : Nat} {row : Nat → Nat} {l : Nat → Nat → Nat} {P : Nat → List Nat} {B : List Int} (hg : g_ld l P) (hl : px_ld σ w l P) (hv : px_vw σ q day opn cur row s) (hr : g_rk cur row) (hd : day ≤ 100000) (hB : B.length ≤ 100) (hsk : px_sk σ B) (htp : σ.1 34 2 = nI B.length) :
    ∃ σ', F_X2_worthOf σ q (nI s) = some (nI (g_worth l P day cur row s), σ') ∧ pz_sm [34, 35, 36] σ σ' ∧ px_sk σ' B ∧ σ'.1 34 2 = nI B.length := by
  obtain ⟨σ1, s1, s2, s3⟩ := px_setSheep l hv
  have hl1 := hl.mv s2 (by decide)
  have hE : pe_env 2 (g_env l day cur row s 0 0) g_of := g_envok hg hr hd hv.2.1 (fun z => by omega) (by omega) (by omega)
  have hvv : ∀ v, pe_al 2 v = true → (σ1.1 35 v).toInt = g_env l day cur row s 0 0 v := fun v hv' => by
    have hb1 := hE.1 v hv'
    have h3 : v ≠ 3 := fun z => by rw [z] at hv'; simp [pe_al] at hv'
    have h4 : v ≠ 4 := fun z => by rw [z] at hv'; simp [pe_al] at hv'
    have h5 : v ≠ 5 := fun z => by rw [z] at hv'; simp [pe_al] at hv'
    unfold g_env at hb1 ⊢
    rw [s3 v (pe_al_lt hv') h3 h4 h5, nI_toInt (by omega)]
  obtain ⟨a, c1, c2, c3⟩ := hl1.2.2.2.2.2.2.2.2.2 2 (by omega)
  obtain ⟨x, σ3, p1, p2, p3, p4, p5⟩ := px_run (kind := 2) (which := 2) hl.1 (by omega) (by omega) hE hB c3 c1 c2 hvv hg.2.2.2.2.2.2.2.2.2 (px_sk_cong (fun j _ => by rw [s2.r (by decide)]) hsk) (by rw [s2.r (by decide)]; exact htp)
  have hval : g_val (g_env l day cur row s 0 0) (P 2) = x.toInt := by unfold g_val; rw [p2]; rfl
  refine ⟨σ3, ?_, (s2.mono (by decide)).trans (p5.mono (by decide)), p3, p4⟩
  have l9 : (9999 : Int32).toInt = 9999 := by decide
  have l0 : (0 : Int32).toInt = 0 := by decide
  unfold F_X2_worthOf F_J9_min_7cf53 F_J9_max_7cf53 S_J9_min_7cf53_10 S_J9_max_7cf53_10 g_worth g_cut
  rw [s1]
  dsimp only [Option.bind]
  rw [hl1.2.1]
  dsimp only
  rw [show (2 : Int32) = nI 2 from rfl, p1, hval]
  dsimp only
  by_cases h1 : x < 9999
  · have h1' := h1
    rw [fa_lt, l9] at h1'
    rw [if_pos h1]
    dsimp only
    by_cases h2 : 0 < x
    · have h2' := h2
      rw [fa_lt, l0] at h2'
      rw [if_pos h2, if_neg (show ¬ x.toInt < 0 by omega), if_neg (show ¬ (9999 : Int) < x.toInt by omega)]
      dsimp only
      congr 2
      rw [fa_eq, nI_toInt (by omega)]
      omega
    · have h2' := h2
      rw [fa_lt, l0] at h2'
      rw [if_neg h2]
      by_cases h3 : x.toInt < 0
      · rw [if_pos h3]; rfl
      · rw [if_neg h3, if_neg (show ¬ (9999 : Int) < x.toInt by omega), show x.toInt.toNat = 0 by omega]; rfl
  · have h1' := h1
    rw [fa_lt, l9] at h1'
    rw [if_neg h1, if_neg (show ¬ x.toInt < 0 by omega)]
    dsimp only
    rw [if_pos (by decide)]
    by_cases h3 : (9999 : Int) < x.toInt
    · rw [if_pos h3]; rfl
    · rw [if_neg h3, show x.toInt.toNat = 9999 by omega]; rfl

/-! The reference tells what codes tell. -/
theorem pm_ix (a b s : Nat) : (OfNat.ofNat a : Int32) + (OfNat.ofNat b : Int32) * nI s = nI (OfNat.ofNat a + OfNat.ofNat b * s) := by
  rw [pz_lit, pz_lit, pk_mul, nI_add]
theorem pm_ad (a s : Nat) : (OfNat.ofNat a : Int32) + nI s = nI (OfNat.ofNat a + s) := by
  rw [pz_lit, nI_add]
theorem pm_sb {a s : Nat} (h : OfNat.ofNat a ≤ s) : nI s - (OfNat.ofNat a : Int32) = nI (s - OfNat.ofNat a) := by
  rw [pz_lit, pk_sub h]
/-- all cells but those of S stay, and the object's own ints but those of K -/
def pm_sm (S K : List Nat) (τ τ' : sw_St) : Prop := (∀ o, o ≠ 0 → o ∉ S → τ'.1 o = τ.1 o ∧ τ'.2.1 o = τ.2.1 o) ∧ (∀ k, k ∉ K → τ'.1 0 k = τ.1 0 k) ∧ τ'.2.1 0 = τ.2.1 0
theorem pm_sm.refl (S K : List Nat) (τ : sw_St) : pm_sm S K τ τ := ⟨fun _ _ _ => ⟨rfl, rfl⟩, fun _ _ => rfl, rfl⟩
theorem pm_sm.trans {S K : List Nat} {τ τ1 τ2 : sw_St} (h : pm_sm S K τ τ1) (g : pm_sm S K τ1 τ2) : pm_sm S K τ τ2 :=
  ⟨fun o h1 h2 => ⟨(g.1 o h1 h2).1.trans (h.1 o h1 h2).1, (g.1 o h1 h2).2.trans (h.1 o h1 h2).2⟩, fun k hk => (g.2.1 k hk).trans (h.2.1 k hk), g.2.2.trans h.2.2⟩
theorem pm_sm.mono {S K S' K' : List Nat} {τ τ' : sw_St} (h : pm_sm S K τ τ') (hs : ∀ x ∈ S, x ∈ S') (hk : ∀ x ∈ K, x ∈ K') : pm_sm S' K' τ τ' :=
  ⟨fun o h1 h2 => h.1 o h1 (fun z => h2 (hs o z)), fun k h2 => h.2.1 k (fun z => h2 (hk k z)), h.2.2⟩
theorem pm_sm.I {S K : List Nat} {τ τ' : sw_St} (h : pm_sm S K τ τ') {o : Nat} (ho : o ∈ S) (h0 : o ≠ 0) (k : Nat) (v : Int32) : pm_sm S K τ (sw_uI τ' o k v) :=
  ⟨fun o' h1 h2 => ⟨by
    have : o' ≠ o := fun z => h2 (z ▸ ho)
    funext k'
    rw [pz_Io this, (h.1 o' h1 h2).1], (h.1 o' h1 h2).2⟩, fun k' hk' => by rw [pz_Io (Ne.symm h0), h.2.1 k' hk'], h.2.2⟩
theorem pm_sm.L {S K : List Nat} {τ τ' : sw_St} (h : pm_sm S K τ τ') {o : Nat} (ho : o ∈ S) (h0 : o ≠ 0) (k : Nat) (v : Int64) : pm_sm S K τ (sw_uL τ' o k v) :=
  ⟨fun o' h1 h2 => ⟨(h.1 o' h1 h2).1, by
    have : o' ≠ o := fun z => h2 (z ▸ ho)
    funext k'
    rw [pz_Lo this, (h.1 o' h1 h2).2]⟩, h.2.1, by
    funext k'
    rw [pz_Lo (Ne.symm h0), h.2.2]⟩
theorem pm_sm.K {S K : List Nat} {τ τ' : sw_St} (h : pm_sm S K τ τ') {k : Nat} (hk : k ∈ K) (v : Int32) : pm_sm S K τ (sw_uI τ' 0 k v) :=
  ⟨fun o' h1 h2 => ⟨by
    funext k'
    rw [pz_Io h1, (h.1 o' h1 h2).1], (h.1 o' h1 h2).2⟩, fun k' hk' => by rw [pz_Ik (fun z : k' = k => hk' (by rw [z]; exact hk)), h.2.1 k' hk'], h.2.2⟩
theorem pm_sm.r {S K : List Nat} {τ τ' : sw_St} (h : pm_sm S K τ τ') {o : Nat} (h0 : o ≠ 0) (ho : o ∉ S) (k : Nat) : τ'.1 o k = τ.1 o k := by rw [(h.1 o h0 ho).1]
def pm_sk (τ : sw_St) : List Int → Prop
  | [] => True
  | v :: S => (τ.2.1 73 S.length).toInt = v ∧ pm_sk τ S
theorem pm_sk_cong {τ τ' : sw_St} : ∀ {S : List Int}, (∀ k, k < S.length → τ'.2.1 73 k = τ.2.1 73 k) → pm_sk τ S → pm_sk τ' S
  | [], _, _ => trivial
  | v :: S, h, hs => ⟨by rw [h _ (by simp)]; exact hs.1, pm_sk_cong (fun k hk => h k (by simp; omega)) hs.2⟩
theorem pm_puts {τ : sw_St} {S : List Int} (y : Int64) (hs : pm_sk τ S) (ht : τ.1 0 101 = nI S.length) (hl : S.length < 1700) :
    ∃ τ', F_X11_qPuts τ y = some ((), τ') ∧ pm_sk τ' (y.toInt :: S) ∧ τ'.1 0 101 = nI (S.length + 1) ∧ pm_sm [73] [101] τ τ' := by
  refine ⟨sw_uI (sw_uL τ 73 S.length y) 0 101 (nI (S.length + 1)), ?_, ⟨?_, ?_⟩, pz_Ie rfl rfl, ((pm_sm.refl _ _ τ).L (by decide) (by decide) _ _).K (by decide) _⟩
  · unfold F_X11_qPuts
    rw [ht, if_pos (pz_inb hl (by omega)), nI_clamp (by omega), nI_1]
  · show ((sw_uL τ 73 S.length y).2.1 73 S.length).toInt = _
    rw [pz_Le rfl rfl]
  · refine pm_sk_cong (fun k hk => ?_) hs
    show (sw_uL τ 73 S.length y).2.1 73 k = _
    rw [pz_Lk (by omega)]
theorem pm_clip (τ : sw_St) (y : Int64) : ∃ z, F_X11_qClip τ y = some (z, τ) ∧ z.toInt = pe_clip y.toInt := by
  have e1 : (1000000 : Int64).toInt = 1000000 := by decide
  have e2 : (-1000000 : Int64).toInt = -1000000 := by decide
  unfold F_X11_qClip S_X11_qClip_29 pe_clip
  simp only [lg_cmp_le, lg_cmp_ge, fa_le64, e1, e2]
  by_cases h1 : y.toInt ≤ 1000000
  · rw [if_pos h1, if_neg (show ¬ (1000000 : Int) < y.toInt by omega)]
    by_cases h2 : -1000000 ≤ y.toInt
    · rw [if_pos h2, if_neg (show ¬ y.toInt < -1000000 by omega)]
      exact ⟨_, rfl, rfl⟩
    · rw [if_neg h2, if_pos (show y.toInt < -1000000 by omega)]
      exact ⟨_, rfl, e2⟩
  · rw [if_neg h1, if_pos (show (1000000 : Int) < y.toInt by omega)]
    exact ⟨_, rfl, e1⟩
theorem pm_floor (τ : sw_St) {x y : Int64} (hx : -1000000 ≤ x.toInt ∧ x.toInt ≤ 1000000) : ∃ z, F_X11_qFloor τ x y = some (z, τ) ∧ z.toInt = pe_fd x.toInt y.toInt := by
  have e0 : (0 : Int64).toInt = 0 := by decide
  have e1 : (1 : Int64).toInt = 1 := by decide
  have h1 := pe_tdiv_rng (b := y.toInt) hx
  have h2 : (x / y).toInt = x.toInt.tdiv y.toInt := by
    rw [Int64.toInt_div, fb_bmodL (by omega) (by omega)]
  have h3 : (x - x / y * y).toInt = x.toInt.tmod y.toInt := by
    have e := Int.tmod_add_mul_tdiv x.toInt y.toInt
    have q1 : ((x.toInt.tdiv y.toInt) * y.toInt).natAbs ≤ x.toInt.natAbs := by
      rw [Int.natAbs_mul, Int.natAbs_tdiv]
      exact Nat.div_mul_le_self _ _
    have q2 : (x / y * y).toInt = x.toInt.tdiv y.toInt * y.toInt := by
      rw [fb_mulL (by rw [h2]; omega) (by rw [h2]; omega), h2]
    rw [fb_subL (by rw [q2]; omega) (by rw [q2]; omega), q2, Int.mul_comm]
    omega
  unfold F_X11_qFloor S_X11_qFloor_32 S_X11_qFloor_43 S_X11_qFloor_53 S_X11_qFloor_55 pe_fd
  simp only [lg_cmp_eq, lg_cmp_ge, fa_le64, fa_eq64, e0, h3]
  by_cases g0 : y.toInt = 0
  · rw [if_pos g0, if_pos g0]
    exact ⟨_, rfl, e0⟩
  rw [if_neg g0, if_neg g0, if_pos g0, if_pos g0]
  by_cases g1 : x.toInt.tmod y.toInt = 0
  · rw [if_pos g1, if_neg (fun z => z.1 g1)]
    exact ⟨_, rfl, h2⟩
  rw [if_neg g1]
  have hs : (x / y - 1).toInt = x.toInt.tdiv y.toInt - 1 := by
    rw [fb_subL (by rw [h2, e1]; omega) (by rw [h2, e1]; omega), h2, e1]
  by_cases g2 : 0 ≤ x.toInt
  · rw [if_pos g2]
    by_cases g3 : 0 ≤ y.toInt
    · rw [if_pos g3, if_neg (show ¬ (x.toInt.tmod y.toInt ≠ 0 ∧ ¬ (x.toInt < 0 ↔ y.toInt < 0)) from fun z => z.2 ⟨fun _ => by omega, fun _ => by omega⟩)]
      exact ⟨_, rfl, h2⟩
    · rw [if_neg g3, if_pos (show x.toInt.tmod y.toInt ≠ 0 ∧ ¬ (x.toInt < 0 ↔ y.toInt < 0) from ⟨g1, fun z => by omega⟩)]
      exact ⟨_, if_neg (by decide : ¬ (0 : Int32) = 1), hs⟩
  · rw [if_neg g2]
    by_cases g3 : 0 ≤ y.toInt
    · rw [if_pos g3, if_pos (show x.toInt.tmod y.toInt ≠ 0 ∧ ¬ (x.toInt < 0 ↔ y.toInt < 0) from ⟨g1, fun z => by omega⟩)]
      exact ⟨_, if_neg (by decide : ¬ (1 : Int32) = 0), hs⟩
    · rw [if_neg g3, if_neg (show ¬ (x.toInt.tmod y.toInt ≠ 0 ∧ ¬ (x.toInt < 0 ↔ y.toInt < 0)) from fun z => z.2 ⟨fun _ => by omega, fun _ => by omega⟩)]
      exact ⟨_, rfl, h2⟩
theorem pm_join {τ : sw_St} {R : List Int} {a b : Int} {c t : Nat} (hs : pm_sk τ (b :: a :: R)) (ht : τ.1 0 101 = nI (R.length + 2)) (hl : R.length + 2 < 1700) (hc : 1 ≤ c ∧ c ≤ 11) (ha : pe_vt t a) (hb : pe_vt t b) (ht2 : (c ≤ 9 ∧ t = 0) ∨ (9 < c ∧ t = 1)) :
    ∃ τ', F_X11_qJoins τ (nI c) = some ((), τ') ∧ pm_sk τ' (pe_jn c a b :: R) ∧ τ'.1 0 101 = nI (R.length + 1) ∧ pm_sm [73] [101] τ τ' := by
  obtain ⟨hb1, ha1, hR⟩ := hs
  obtain ⟨a1, a2, a3⟩ := ha
  obtain ⟨b1, b2, b3⟩ := hb
  have w1 : (τ.2.1 73 (R.length + 1)).toInt = b := hb1
  have w2 : (τ.2.1 73 R.length).toInt = a := ha1
  have m1 : pm_sm [73] [101] τ (sw_uI τ 0 101 (nI R.length)) := (pm_sm.refl _ _ τ).K (by decide) _
  have fin : ∀ y : Int64, y.toInt = pe_jn c a b → ∃ τ', F_X11_qPuts (sw_uI τ 0 101 (nI R.length)) y = some ((), τ') ∧ pm_sk τ' (pe_jn c a b :: R) ∧ τ'.1 0 101 = nI (R.length + 1) ∧ pm_sm [73] [101] τ τ' := fun y hy => by
    obtain ⟨τ', p1, p2, p3, p4⟩ := pm_puts (τ := sw_uI τ 0 101 (nI R.length)) (S := R) y (pm_sk_cong (τ := τ) (fun _ _ => rfl) hR) (pz_Ie rfl rfl) (by omega)
    rw [hy] at p2
    exact ⟨τ', p1, p2, p3, m1.trans p4⟩
  have l1 : (1 : Int64).toInt = 1 := by decide
  have l0 : (0 : Int64).toInt = 0 := by decide
  unfold F_X11_qJoins
  rw [ht, show nI (R.length + 2) - 1 = nI (R.length + 1) from nI_pred _, pm_sb (by omega), show R.length + 2 - 2 = R.length by omega, if_pos (pz_inb (by omega) (by omega)), if_pos (pz_inb (by omega) (by omega)), nI_clamp (by omega), nI_clamp (by omega)]
  have k1 : c = 1 ∨ c = 2 ∨ c = 3 ∨ c = 4 ∨ c = 5 ∨ c = 6 ∨ c = 7 ∨ c = 8 ∨ c = 9 ∨ c = 10 ∨ c = 11 := by omega
  rcases k1 with rfl | rfl | rfl | rfl | rfl | rfl | rfl | rfl | rfl | rfl | rfl
  · rw [if_pos (by decide)]
    unfold S_X11_qJoins_92 S_X11_qJoins_273
    obtain ⟨z, q1, q2⟩ := pm_clip (sw_uI τ 0 101 (nI R.length)) (τ.2.1 73 R.length + τ.2.1 73 (R.length + 1))
    rw [fb_addL (by omega) (by omega), w1, w2, ← pe_j1] at q2
    obtain ⟨τ', p1, p2⟩ := fin z q2
    refine ⟨τ', ?_, p2⟩
    rw [q1]; dsimp only [Option.bind]; rw [p1]
  · rw [if_neg (by decide), if_pos (by decide)]
    unfold S_X11_qJoins_106 S_X11_qJoins_273
    obtain ⟨z, q1, q2⟩ := pm_clip (sw_uI τ 0 101 (nI R.length)) (τ.2.1 73 R.length - τ.2.1 73 (R.length + 1))
    rw [fb_subL (by omega) (by omega), w1, w2, ← pe_j2] at q2
    obtain ⟨τ', p1, p2⟩ := fin z q2
    refine ⟨τ', ?_, p2⟩
    rw [q1]; dsimp only [Option.bind]; rw [p1]
  · rw [if_neg (by decide), if_neg (by decide), if_pos (by decide)]
    unfold S_X11_qJoins_120 S_X11_qJoins_273
    have hmb := px_mulB ⟨a1, a2⟩ ⟨b1, b2⟩
    obtain ⟨z, q1, q2⟩ := pm_clip (sw_uI τ 0 101 (nI R.length)) (τ.2.1 73 R.length * τ.2.1 73 (R.length + 1))
    rw [fb_mulL (by rw [w1, w2]; omega) (by rw [w1, w2]; omega), w1, w2, ← pe_j3] at q2
    obtain ⟨τ', p1, p2⟩ := fin z q2
    refine ⟨τ', ?_, p2⟩
    rw [q1]; dsimp only [Option.bind]; rw [p1]
  · rw [if_neg (by decide), if_neg (by decide), if_neg (by decide), if_pos (by decide)]
    unfold S_X11_qJoins_134 S_X11_qJoins_273
    obtain ⟨z, q1, q2⟩ := pm_floor (sw_uI τ 0 101 (nI R.length)) (x := τ.2.1 73 R.length) (y := τ.2.1 73 (R.length + 1)) (by rw [w2]; exact ⟨a1, a2⟩)
    rw [w1, w2, ← pe_j4] at q2
    obtain ⟨τ', p1, p2⟩ := fin z q2
    refine ⟨τ', ?_, p2⟩
    rw [q1]; dsimp only [Option.bind]; rw [p1]
  · rw [if_neg (by decide), if_neg (by decide), if_neg (by decide), if_neg (by decide), if_pos (by decide)]
    unfold S_X11_qJoins_147 S_X11_qJoins_161 S_X11_qJoins_273
    simp only [lg_cmp_ge, fa_le64, w1, w2]
    by_cases hz : b ≤ a
    · obtain ⟨τ', p1, p2⟩ := fin (τ.2.1 73 (R.length + 1)) (by rw [w1]; rw [pe_j5]; rw [if_neg (by omega)])
      exact ⟨τ', by rw [if_pos hz, p1]; rfl, p2⟩
    · obtain ⟨τ', p1, p2⟩ := fin (τ.2.1 73 R.length) (by rw [w2]; rw [pe_j5]; rw [if_pos (by omega)])
      exact ⟨τ', by rw [if_neg hz, p1]; rfl, p2⟩
  · rw [if_neg (by decide), if_neg (by decide), if_neg (by decide), if_neg (by decide), if_neg (by decide), if_pos (by decide)]
    unfold S_X11_qJoins_167 S_X11_qJoins_181 S_X11_qJoins_273
    simp only [lg_cmp_le, fa_le64, w1, w2]
    by_cases hz : a ≤ b
    · obtain ⟨τ', p1, p2⟩ := fin (τ.2.1 73 (R.length + 1)) (by rw [w1]; rw [pe_j6]; rw [if_neg (by omega)])
      exact ⟨τ', by rw [if_pos hz, p1]; rfl, p2⟩
    · obtain ⟨τ', p1, p2⟩ := fin (τ.2.1 73 R.length) (by rw [w2]; rw [pe_j6]; rw [if_pos (by omega)])
      exact ⟨τ', by rw [if_neg hz, p1]; rfl, p2⟩
  · rw [if_neg (by decide), if_neg (by decide), if_neg (by decide), if_neg (by decide), if_neg (by decide), if_neg (by decide), if_pos (by decide)]
    unfold S_X11_qJoins_187 S_X11_qJoins_200 S_X11_qJoins_273
    simp only [lg_cmp_ge, fa_le64, w1, w2]
    by_cases hz : b ≤ a
    · obtain ⟨τ', p1, p2⟩ := fin 0 (by rw [l0]; rw [pe_j7]; rw [if_neg (by omega)])
      exact ⟨τ', by rw [if_pos hz, p1]; rfl, p2⟩
    · obtain ⟨τ', p1, p2⟩ := fin 1 (by rw [l1]; rw [pe_j7]; rw [if_pos (by omega)])
      exact ⟨τ', by rw [if_neg hz, p1]; rfl, p2⟩
  · rw [if_neg (by decide), if_neg (by decide), if_neg (by decide), if_neg (by decide), if_neg (by decide), if_neg (by decide), if_neg (by decide), if_pos (by decide)]
    unfold S_X11_qJoins_206 S_X11_qJoins_219 S_X11_qJoins_273
    simp only [lg_cmp_le, fa_le64, w1, w2]
    by_cases hz : a ≤ b
    · obtain ⟨τ', p1, p2⟩ := fin 0 (by rw [l0]; rw [pe_j8]; rw [if_neg (by omega)])
      exact ⟨τ', by rw [if_pos hz, p1]; rfl, p2⟩
    · obtain ⟨τ', p1, p2⟩ := fin 1 (by rw [l1]; rw [pe_j8]; rw [if_pos (by omega)])
      exact ⟨τ', by rw [if_neg hz, p1]; rfl, p2⟩
  · rw [if_neg (by decide), if_neg (by decide), if_neg (by decide), if_neg (by decide), if_neg (by decide), if_neg (by decide), if_neg (by decide), if_neg (by decide), if_pos (by decide)]
    unfold S_X11_qJoins_225 S_X11_qJoins_238 S_X11_qJoins_273
    simp only [lg_cmp_eq, fa_eq64, w1, w2]
    by_cases hz : a = b
    · obtain ⟨τ', p1, p2⟩ := fin 1 (by rw [l1]; rw [pe_j9]; rw [if_pos hz])
      exact ⟨τ', by rw [if_pos hz, p1]; rfl, p2⟩
    · obtain ⟨τ', p1, p2⟩ := fin 0 (by rw [l0]; rw [pe_j9]; rw [if_neg hz])
      exact ⟨τ', by rw [if_neg hz, p1]; rfl, p2⟩
  · rw [if_neg (by decide), if_neg (by decide), if_neg (by decide), if_neg (by decide), if_neg (by decide), if_neg (by decide), if_neg (by decide), if_neg (by decide), if_neg (by decide), if_pos (by decide)]
    unfold S_X11_qJoins_244 S_X11_qJoins_273
    have hmb := px_mulB ⟨a1, a2⟩ ⟨b1, b2⟩
    obtain ⟨τ', p1, p2⟩ := fin (τ.2.1 73 R.length * τ.2.1 73 (R.length + 1)) (by rw [fb_mulL (by rw [w1, w2]; omega) (by rw [w1, w2]; omega), w1, w2, pe_j10])
    exact ⟨τ', by rw [p1]; rfl, p2⟩
  · rw [if_neg (by decide), if_neg (by decide), if_neg (by decide), if_neg (by decide), if_neg (by decide), if_neg (by decide), if_neg (by decide), if_neg (by decide), if_neg (by decide), if_neg (by decide)]
    unfold S_X11_qJoins_255 S_X11_qJoins_270 S_X11_qJoins_273
    have hsum : (τ.2.1 73 R.length + τ.2.1 73 (R.length + 1)).toInt = a + b := by rw [fb_addL (by omega) (by omega), w1, w2]
    simp only [lg_cmp_le, fa_le64, hsum, l0]
    by_cases hz : a + b ≤ 0
    · obtain ⟨τ', p1, p2⟩ := fin 0 (by rw [l0]; rw [pe_j11]; rw [if_neg (by omega)])
      exact ⟨τ', by rw [if_pos hz, p1]; rfl, p2⟩
    · obtain ⟨τ', p1, p2⟩ := fin 1 (by rw [l1]; rw [pe_j11]; rw [if_pos (by omega)])
      exact ⟨τ', by rw [if_neg hz, p1]; rfl, p2⟩

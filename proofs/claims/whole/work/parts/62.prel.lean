/-! What the two stores show: one picture. -/
abbrev g_D : Type := (Nat → Nat) × (Nat → Nat → Nat) × List (Nat × Nat × Nat × Nat)
def g_kx (x : Nat × Nat × Nat × Nat) : Prop := x.1 ≤ 999 ∧ x.2.1 < 6 ∧ x.2.2.1 < 10 ∧ x.2.2.2 ≤ 999
def g_z (l : Nat → Nat → Nat) (D : g_D) : Prop := ∀ s j, s < l 0 2 → l 0 0 ≤ j → j < 8 → D.2.1 s (4 + j) = 0
/-- a state that can be: day, purse, open gaps, rows of the sheep, what is kept -/
def g_dk (l : Nat → Nat → Nat) (D : g_D) : Prop := D.1 0 ≤ 999 ∧ D.1 1 ≤ 99999 ∧ D.1 2 < 2 ^ l 0 1 ∧ (∀ s, s < l 0 2 → g_rk (l 3 (2 * s + 1)) (D.2.1 s) ∧ D.2.1 s 0 < l 0 0) ∧ D.2.2.length ≤ 40 ∧ (∀ x ∈ D.2.2, g_kx x) ∧ g_z l D
def g_pk (x : Nat × Nat × Nat × Nat) : Nat := ((x.1 * 6 + x.2.1) * 10 + x.2.2.1) * 1000 + x.2.2.2
def px_kp (σ : sw_St) (q : Nat) (K : List (Nat × Nat × Nat × Nat)) : Prop := ∃ kf, kf < 40 ∧ σ.1 q 10 = nI kf ∧ σ.1 q 11 = nI K.length ∧ ∀ i, i < K.length → σ.1 (q + 7) ((kf + i) % 40) = nI (g_pk (K.getD i (0, 0, 0, 0)))
def px_sh (σ : sw_St) (q cur : Nat) (row : Nat → Nat) (s : Nat) : Prop := σ.1 (q + 1) s = nI (row 0) ∧ σ.1 (q + 2) s = nI (row 1) ∧ σ.1 (q + 3) s = nI (row 2) ∧ σ.1 (q + 4) s = nI (row 3) ∧ σ.1 (q + 5) s = nI cur ∧ ∀ f, f < 8 → σ.1 (q + 6) (8 * s + f) = nI (row (4 + f))
def px_st (σ : sw_St) (q : Nat) (l : Nat → Nat → Nat) (D : g_D) : Prop := σ.1 q 0 = nI (D.1 0) ∧ σ.1 q 1 = nI (D.1 1) ∧ σ.1 q 2 = nI (D.1 2) ∧ (∀ s, s < l 0 2 → px_sh σ q (l 3 (2 * s + 1)) (D.2.1 s) s) ∧ px_kp σ q D.2.2
theorem px_st.mv {σ σ' : sw_St} {q : Nat} {l : Nat → Nat → Nat} {D : g_D} (h : px_st σ q l D) (r : ∀ j, j ≤ 7 → σ'.1 (q + j) = σ.1 (q + j)) : px_st σ' q l D := by
  have r0 : σ'.1 q = σ.1 q := r 0 (by omega)
  unfold px_st px_sh px_kp
  rw [r0, r 1 (by omega), r 2 (by omega), r 3 (by omega), r 4 (by omega), r 5 (by omega), r 6 (by omega), r 7 (by omega)]
  exact h
theorem px_st.vw {σ : sw_St} {q s : Nat} {l : Nat → Nat → Nat} {D : g_D} (h : px_st σ q l D) (hq : q = 38 ∨ q = 46) (hs : s < l 0 2) (h6 : l 0 2 ≤ 6) : px_vw σ q (D.1 0) (D.1 2) (l 3 (2 * s + 1)) (D.2.1 s) s :=
  ⟨hq, by omega, h.1, h.2.2.1, (h.2.2.2.1 s hs).1, (h.2.2.2.1 s hs).2.1, (h.2.2.2.1 s hs).2.2.1, (h.2.2.2.1 s hs).2.2.2.1, (h.2.2.2.1 s hs).2.2.2.2.1, (h.2.2.2.1 s hs).2.2.2.2.2⟩
/-- a byte as the class holds it -/
def sB (n : Nat) : Int32 := (nI n).toInt8.toInt32
abbrev g_N : Type := Nat → Nat → List Nat
/-- a name as the class holds it: five bits a letter, six of them -/
def g_nx (L : List Nat) : Nat := (List.range 6).foldl (fun a i => a * 32 + L.getD i 0) 0
/-- a name as the reference holds it -/
def g_nr (L : List Nat) : Nat := L.foldl (fun a c => 27 * a + c) 0
def g_nk (L : List Nat) : Prop := 1 ≤ L.length ∧ L.length ≤ 6 ∧ ∀ c ∈ L, 1 ≤ c ∧ c ≤ 26
def XN (σ : sw_St) (w : Nat) (l : Nat → Nat → Nat) (nm : g_N) : Prop := (∀ f, f < l 0 0 → σ.1 (w + 1) f = nI (g_nx (nm 0 f))) ∧ ∀ s, s < l 0 2 → σ.1 (w + 6) s = nI (g_nx (nm 1 s))
def XU (σ : sw_St) (l : Nat → Nat → Nat) (U : List g_D) : Prop := ∃ nx, nx < 20 ∧ σ.1 62 1 = nI nx ∧ σ.1 62 2 = nI U.length ∧ (∀ j, j < 20 → σ.2.2 63 j = some (64 + 8 * j)) ∧ ∀ (i : Nat) (E : g_D), U[i]? = some E → px_st σ (64 + 8 * ((nx + 19 - i) % 20)) l E
def XF (σ : sw_St) (F : List (Nat × Nat × Nat)) : Prop := σ.1 54 4 = nI F.length ∧ ∀ i, i < F.length → σ.1 55 (3 * i) = nI (F.getD i (0, 0, 0)).1 ∧ σ.1 55 (3 * i + 1) = nI (F.getD i (0, 0, 0)).2.1 ∧ σ.1 55 (3 * i + 2) = nI (F.getD i (0, 0, 0)).2.2
def XT (σ : sw_St) (T : List Nat) : Prop := σ.1 0 1 = nI T.length ∧ ∀ i, i < T.length → σ.1 1 i = sB (T.getD i 0)
def XI (σ : sw_St) (im : List Nat) : Prop := σ.1 224 1 = nI im.length ∧ ∀ i, i < im.length → σ.1 225 i = sB (im.getD i 0)
def XP (σ : sw_St) : Prop := (σ.2.2 54 10 = some 60 ∧ σ.2.2 54 11 = some 61) ∨ (σ.2.2 54 10 = some 61 ∧ σ.2.2 54 11 = some 60)
/-- the class shows the picture -/
def RX (σ : sw_St) (w : Nat) (l : Nat → Nat → Nat) (P : Nat → List Nat) (nm : g_N) (D : g_D) (U : List g_D) (F : List (Nat × Nat × Nat)) (T : List Nat) (sd : Nat) (rf : Nat → Int32) (ft : Int32 × Int32) (im : List Nat) : Prop :=
  px_ld σ w l P ∧ σ.2.2 0 4 = some (25 - w) ∧ XN σ w l nm ∧ px_st σ 38 l D ∧ XU σ l U ∧ XF σ F ∧ XT σ T ∧ σ.1 0 13 = nI sd ∧ (∀ j, j < 6 → σ.1 226 j = rf j) ∧ (σ.1 2 5 = ft.1 ∧ σ.1 2 6 = ft.2) ∧ XI σ im ∧ σ.1 34 2 = nI 0 ∧ XP σ
theorem px_ld.mvr {σ σ' : sw_St} {w : Nat} {l : Nat → Nat → Nat} {P : Nat → List Nat} (h : px_ld σ w l P) (r : ∀ j, j ≤ 12 → σ'.1 (w + j) = σ.1 (w + j)) (hR : σ'.2.2 33 = σ.2.2 33) : px_ld σ' w l P := by
  obtain ⟨hw, c1, c2, c3, c4, c5, c6, c7, c8, c9⟩ := h
  have q0 : σ'.1 w = σ.1 w := r 0 (by omega)
  unfold px_ld
  rw [hR, q0, r 2 (by omega), r 3 (by omega), r 4 (by omega), r 5 (by omega), r 7 (by omega), r 8 (by omega), r 11 (by omega), r 12 (by omega)]
  refine ⟨hw, c1, c2, c3, c4, c5, c6, c7, c8, fun j hj => ?_⟩
  obtain ⟨a, d1, d2, d3⟩ := c9 j hj
  exact ⟨a, d1, d2, d3.mv (r 10 (by omega))⟩
theorem XN.mvr {σ σ' : sw_St} {w : Nat} {l : Nat → Nat → Nat} {nm : g_N} (h : XN σ w l nm) (r : ∀ j, j ≤ 12 → σ'.1 (w + j) = σ.1 (w + j)) : XN σ' w l nm := by
  unfold XN
  rw [r 1 (by omega), r 6 (by omega)]
  exact h
theorem XU.mv {σ σ' : sw_St} {l : Nat → Nat → Nat} {U : List g_D} {S : List Nat} (h : XU σ l U) (m : pz_sm S σ σ') (hS : ∀ o ∈ S, o < 62 ∨ 223 < o) : XU σ' l U := by
  obtain ⟨nx, b1, b2, b3, b4, b5⟩ := h
  have n : ∀ o, 62 ≤ o → o ≤ 223 → o ∉ S := fun o h1 h2 z => by have := hS o z; omega
  exact ⟨nx, b1, by rw [m.r (n 62 (by omega) (by omega))]; exact b2, by rw [m.r (n 62 (by omega) (by omega))]; exact b3, fun j hj => by rw [m.rR (n 63 (by omega) (by omega))]; exact b4 j hj, fun i E hi => (b5 i E hi).mv (fun j hj => (m _ (n _ (by omega) (by omega))).1)⟩
theorem XF.mv {σ σ' : sw_St} {F : List (Nat × Nat × Nat)} (h : XF σ F) (h1 : σ'.1 54 4 = σ.1 54 4) (h2 : σ'.1 55 = σ.1 55) : XF σ' F := by
  unfold XF
  rw [h1, h2]
  exact h
theorem XT.mv {σ σ' : sw_St} {T : List Nat} (h : XT σ T) (h1 : σ'.1 0 1 = σ.1 0 1) (h2 : σ'.1 1 = σ.1 1) : XT σ' T := by
  unfold XT
  rw [h1, h2]
  exact h
theorem XI.mv {σ σ' : sw_St} {im : List Nat} (h : XI σ im) (h1 : σ'.1 224 1 = σ.1 224 1) (h2 : σ'.1 225 = σ.1 225) : XI σ' im := by
  unfold XI
  rw [h1, h2]
  exact h
theorem XP.mv {σ σ' : sw_St} (h : XP σ) (h1 : σ'.2.2 54 = σ.2.2 54) : XP σ' := by
  unfold XP
  rw [h1]
  exact h
def px_scr : List Nat := [3, 4, 5, 32, 34, 35, 36, 37, 46, 47, 48, 49, 50, 51, 52, 53, 56, 57, 58, 59, 60, 61]
/-- a new picture over the same upland -/
theorem RX.gen {σ σ' : sw_St} {w : Nat} {l : Nat → Nat → Nat} {P : Nat → List Nat} {nm : g_N} {D : g_D} {U : List g_D} {F : List (Nat × Nat × Nat)} {T : List Nat} {sd : Nat} {rf : Nat → Int32} {ft : Int32 × Int32} {im : List Nat} {D' : g_D} {U' : List g_D} {F' : List (Nat × Nat × Nat)} {T' : List Nat} {sd' : Nat} {rf' : Nat → Int32} {ft' : Int32 × Int32} {im' : List Nat} {S : List Nat} (h : RX σ w l P nm D U F T sd rf ft im) (m : pz_sm S σ σ') (hS : ∀ o ∈ S, (o < 6 ∨ 31 < o) ∧ o ≠ 33) (c0 : σ'.2.2 0 4 = σ.2.2 0 4) (n4 : px_st σ' 38 l D') (n5 : XU σ' l U') (n6 : XF σ' F') (n7 : XT σ' T') (n8 : σ'.1 0 13 = nI sd') (n9 : ∀ j, j < 6 → σ'.1 226 j = rf' j) (n10 : σ'.1 2 5 = ft'.1 ∧ σ'.1 2 6 = ft'.2) (n11 : XI σ' im') (n12 : σ'.1 34 2 = nI 0) (n13 : XP σ') : RX σ' w l P nm D' U' F' T' sd' rf' ft' im' := by
  have hw := h.1.1
  have r : ∀ j, j ≤ 12 → σ'.1 (w + j) = σ.1 (w + j) := fun j hj => (m _ (fun z => by have := hS _ z; omega)).1
  exact ⟨h.1.mvr r (m 33 (fun z => (hS _ z).2 rfl)).2.2, by rw [c0]; exact h.2.1, h.2.2.1.mvr r, n4, n5, n6, n7, n8, n9, n10, n11, n12, n13⟩
theorem RX.mv {σ σ' : sw_St} {w : Nat} {l : Nat → Nat → Nat} {P : Nat → List Nat} {nm : g_N} {D : g_D} {U : List g_D} {F : List (Nat × Nat × Nat)} {T : List Nat} {sd : Nat} {rf : Nat → Int32} {ft : Int32 × Int32} {im : List Nat} (h : RX σ w l P nm D U F T sd rf ft im) (m : pz_sm px_scr σ σ') (ht : σ'.1 34 2 = nI 0) : RX σ' w l P nm D U F T sd rf ft im := by
  have nq : ∀ j, j ≤ 7 → 38 + j ∉ px_scr := fun j hj => by unfold px_scr; simp; omega
  exact h.gen m (by decide) (m.rR (by decide) 4) (h.2.2.2.1.mv (fun j hj => (m _ (nq j hj)).1)) (h.2.2.2.2.1.mv m (by decide)) (h.2.2.2.2.2.1.mv (m.r (by decide) 4) (m 55 (by decide)).1) (h.2.2.2.2.2.2.1.mv (m.r (by decide) 1) (m 1 (by decide)).1) (by rw [m.r (by decide)]; exact h.2.2.2.2.2.2.2.1) (fun j hj => by rw [m.r (by decide)]; exact h.2.2.2.2.2.2.2.2.1 j hj) (by rw [m.r (by decide), m.r (by decide)]; exact h.2.2.2.2.2.2.2.2.2.1) (h.2.2.2.2.2.2.2.2.2.2.1.mv (m.r (by decide) 1) (m 225 (by decide)).1) ht (h.2.2.2.2.2.2.2.2.2.2.2.2.mv (m 54 (by decide)).2.2)
/-- a state in the reference's row of numbers -/
def pm_st (τ : sw_St) (o a : Nat) (l : Nat → Nat → Nat) (D : g_D) : Prop := τ.1 o a = nI (D.1 0) ∧ τ.1 o (a + 1) = nI (D.1 1) ∧ (∀ k, k < l 0 1 → τ.1 o (a + (2 + k)) = nI (if (D.1 2).testBit k = true then 1 else 0)) ∧ (∀ s j, s < l 0 2 → j < 12 → τ.1 o (a + (12 + 12 * s + j)) = nI (D.2.1 s j)) ∧ τ.1 o (a + 84) = nI D.2.2.length ∧ ∀ i, i < D.2.2.length → τ.1 o (a + (85 + 4 * i)) = nI (D.2.2.getD i (0, 0, 0, 0)).1 ∧ τ.1 o (a + (85 + 4 * i + 1)) = nI (D.2.2.getD i (0, 0, 0, 0)).2.1 ∧ τ.1 o (a + (85 + 4 * i + 2)) = nI (D.2.2.getD i (0, 0, 0, 0)).2.2.1 ∧ τ.1 o (a + (85 + 4 * i + 3)) = nI (D.2.2.getD i (0, 0, 0, 0)).2.2.2
/-- the words that the reference knows -/
def pm_wl : List (Nat × List Nat) := [(3, [102, 105, 101, 108, 100]), (4, [108, 117, 114, 101]), (5, [103, 97, 112]), (6, [116, 111]), (7, [109, 105, 108, 101, 115]), (8, [115, 104, 117, 116]), (9, [115, 104, 101, 101, 112]), (10, [97, 116]), (11, [99, 117, 114, 105, 111, 117, 115]), (12, [108, 117, 114, 101, 115]), (13, [115, 116, 97, 121, 115]), (14, [119, 111, 114, 116, 104]), (15, [115, 116, 111, 114, 109]), (16, [119, 111, 111, 108]), (17, [100, 97, 121]), (18, [115, 101, 101, 110]), (19, [99, 114, 105, 109, 112]), (20, [108, 101, 100]), (21, [110, 117, 109, 98, 101, 114]), (22, [111, 114]), (23, [97, 110, 100]), (24, [110, 111, 116]), (25, [97, 108, 108]), (26, [109, 105, 110]), (27, [109, 97, 120]), (47, [102, 105, 114, 115, 116]), (48, [108, 97, 115, 116]), (49, [111, 102, 116, 101, 110]), (50, [116, 111, 116, 97, 108]), (51, [109, 111, 115, 116]), (52, [108, 101, 97, 115, 116]), (53, [110, 111, 116]), (54, [97, 110, 100]), (55, [111, 114]), (56, [97, 108, 108]), (57, [109, 105, 110]), (58, [109, 97, 120]), (59, [99, 117, 114, 105, 111, 117, 115]), (60, [119, 111, 111, 108]), (61, [100, 97, 121]), (62, [108, 117, 114, 101]), (63, [115, 101, 101, 110]), (64, [109, 105, 108, 101, 115]), (65, [99, 114, 105, 109, 112]), (66, [108, 101, 100]), (67, [110, 117, 109, 98, 101, 114]), (68, [97, 116]), (69, [115, 101, 101, 110]), (70, [108, 117, 114, 101, 115])]
def pm_wd (τ : sw_St) : Prop := ∀ x ∈ pm_wl, ∀ i, i < x.2.length → τ.1 x.1 i = nI (x.2.getD i 0)
theorem pm_st.mvr {τ τ' : sw_St} {o a : Nat} {l : Nat → Nat → Nat} {D : g_D} (h : pm_st τ o a l D) (r : τ'.1 o = τ.1 o) : pm_st τ' o a l D := by
  unfold pm_st
  rw [r]
  exact h
def MN (τ : sw_St) (l : Nat → Nat → Nat) (nm : g_N) : Prop := (∀ f, f < l 0 0 → τ.2.1 29 (16 + f) = lN (g_nr (nm 0 f))) ∧ ∀ s, s < l 0 2 → τ.2.1 29 (24 + s) = lN (g_nr (nm 1 s))
def MU (τ : sw_St) (l : Nat → Nat → Nat) (U : List g_D) : Prop := ∃ nw, nw < 20 ∧ τ.1 0 68 = nI nw ∧ τ.1 0 67 = nI U.length ∧ ∀ (i : Nat) (E : g_D), U[i]? = some E → pm_st τ 46 (245 * ((nw + 20 - i) % 20)) l E
def MF (τ : sw_St) (F : List (Nat × Nat × Nat)) : Prop := τ.1 0 63 = nI F.length ∧ ∀ i, i < F.length → τ.1 44 (3 * i) = nI (F.getD i (0, 0, 0)).1 ∧ τ.1 44 (3 * i + 1) = nI (F.getD i (0, 0, 0)).2.1 ∧ τ.1 44 (3 * i + 2) = nI (F.getD i (0, 0, 0)).2.2
def MT (τ : sw_St) (T : List Nat) : Prop := τ.1 0 1 = nI T.length ∧ ∀ i, i < T.length → τ.1 1 i = nI (T.getD i 0)
def MI (τ : sw_St) (im : List Nat) : Prop := τ.1 0 105 = nI im.length ∧ ∀ i, i < im.length → τ.1 74 i = nI (im.getD i 0)
/-- the reference shows the picture -/
def RM (τ : sw_St) (l : Nat → Nat → Nat) (P : Nat → List Nat) (nm : g_N) (D : g_D) (U : List g_D) (F : List (Nat × Nat × Nat)) (T : List Nat) (sd : Nat) (rf : Nat → Int32) (ft : Int32 × Int32) (im : List Nat) : Prop :=
  pm_ld τ l P ∧ MN τ l nm ∧ pm_st τ 37 0 l D ∧ MU τ l U ∧ MF τ F ∧ MT τ T ∧ τ.2.1 0 69 = lN sd ∧ (∀ j, j < 6 → τ.1 2 j = rf j) ∧ (τ.1 0 7 = ft.1 ∧ τ.1 0 8 = ft.2) ∧ MI τ im ∧ (τ.1 0 52 = -1 ∧ τ.1 0 58 = 0) ∧ pm_wd τ
theorem MU.mv {τ τ' : sw_St} {l : Nat → Nat → Nat} {U : List g_D} (h : MU τ l U) (h1 : τ'.1 0 68 = τ.1 0 68) (h2 : τ'.1 0 67 = τ.1 0 67) (h3 : τ'.1 46 = τ.1 46) : MU τ' l U := by
  obtain ⟨nw, a, b, c, d⟩ := h
  exact ⟨nw, a, by rw [h1]; exact b, by rw [h2]; exact c, fun i E hi => (d i E hi).mvr h3⟩
theorem MF.mv {τ τ' : sw_St} {F : List (Nat × Nat × Nat)} (h : MF τ F) (h1 : τ'.1 0 63 = τ.1 0 63) (h2 : τ'.1 44 = τ.1 44) : MF τ' F := by
  unfold MF
  rw [h1, h2]
  exact h
theorem MT.mv {τ τ' : sw_St} {T : List Nat} (h : MT τ T) (h1 : τ'.1 0 1 = τ.1 0 1) (h2 : τ'.1 1 = τ.1 1) : MT τ' T := by
  unfold MT
  rw [h1, h2]
  exact h
theorem MI.mv {τ τ' : sw_St} {im : List Nat} (h : MI τ im) (h1 : τ'.1 0 105 = τ.1 0 105) (h2 : τ'.1 74 = τ.1 74) : MI τ' im := by
  unfold MI
  rw [h1, h2]
  exact h
theorem pm_wd.mv {τ τ' : sw_St} {S K : List Nat} (h : pm_wd τ) (m : pm_sm S K τ τ') (hS : ∀ x ∈ pm_wl, x.1 ∉ S) : pm_wd τ' := fun x hx i hi => by
  have h0 : ∀ x ∈ pm_wl, x.1 ≠ 0 := by decide
  rw [m.r (h0 x hx) (hS x hx)]
  exact h x hx i hi
def pm_scrS : List Nat := [32, 38, 39, 40, 41, 42, 43, 45, 71, 72, 73]
def pm_scrK : List Nat := [2, 3, 4, 5, 6, 10, 36, 46, 47, 48, 53, 54, 55, 56, 59, 95, 97, 98, 99, 101]
/-- a new picture over the same upland -/
theorem RM.gen {τ τ' : sw_St} {l : Nat → Nat → Nat} {P : Nat → List Nat} {nm : g_N} {D : g_D} {U : List g_D} {F : List (Nat × Nat × Nat)} {T : List Nat} {sd : Nat} {rf : Nat → Int32} {ft : Int32 × Int32} {im : List Nat} {D' : g_D} {U' : List g_D} {F' : List (Nat × Nat × Nat)} {T' : List Nat} {sd' : Nat} {rf' : Nat → Int32} {ft' : Int32 × Int32} {im' : List Nat} (h : RM τ l P nm D U F T sd rf ft im) (n1 : pm_ld τ' l P) (c29 : τ'.2.1 29 = τ.2.1 29) (n3 : pm_st τ' 37 0 l D') (n4 : MU τ' l U') (n5 : MF τ' F') (n6 : MT τ' T') (n7 : τ'.2.1 0 69 = lN sd') (n8 : ∀ j, j < 6 → τ'.1 2 j = rf' j) (n9 : τ'.1 0 7 = ft'.1 ∧ τ'.1 0 8 = ft'.2) (n10 : MI τ' im') (n11 : τ'.1 0 52 = -1 ∧ τ'.1 0 58 = 0) (n12 : pm_wd τ') : RM τ' l P nm D' U' F' T' sd' rf' ft' im' := by
  refine ⟨n1, ?_, n3, n4, n5, n6, n7, n8, n9, n10, n11, n12⟩
  unfold MN
  rw [c29]
  exact h.2.1
theorem RM.mv {τ τ' : sw_St} {l : Nat → Nat → Nat} {P : Nat → List Nat} {nm : g_N} {D : g_D} {U : List g_D} {F : List (Nat × Nat × Nat)} {T : List Nat} {sd : Nat} {rf : Nat → Int32} {ft : Int32 × Int32} {im : List Nat} (h : RM τ l P nm D U F T sd rf ft im) (m : pm_sm pm_scrS pm_scrK τ τ') : RM τ' l P nm D U F T sd rf ft im := by
  have r : ∀ o, o ≠ 0 → o ∉ pm_scrS → τ'.1 o = τ.1 o := fun o h0 ho => (m.1 o h0 ho).1
  have rk : ∀ k, k ∉ pm_scrK → τ'.1 0 k = τ.1 0 k := fun k hk => m.2.1 k hk
  exact h.gen (h.1.mv m (by unfold pm_LS; decide)) (m.1 29 (by decide) (by decide)).2 (h.2.2.1.mvr (r 37 (by decide) (by decide))) (h.2.2.2.1.mv (rk 68 (by decide)) (rk 67 (by decide)) (r 46 (by decide) (by decide))) (h.2.2.2.2.1.mv (rk 63 (by decide)) (r 44 (by decide) (by decide))) (h.2.2.2.2.2.1.mv (rk 1 (by decide)) (r 1 (by decide) (by decide))) (by rw [m.2.2]; exact h.2.2.2.2.2.2.1) (fun j hj => by rw [r 2 (by decide) (by decide)]; exact h.2.2.2.2.2.2.2.1 j hj) (by rw [rk 7 (by decide), rk 8 (by decide)]; exact h.2.2.2.2.2.2.2.2.1) (h.2.2.2.2.2.2.2.2.2.1.mv (rk 105 (by decide)) (r 74 (by decide) (by decide))) (by rw [rk 52 (by decide), rk 58 (by decide)]; exact h.2.2.2.2.2.2.2.2.2.2.1) (h.2.2.2.2.2.2.2.2.2.2.2.mv m (by decide))
theorem pm_st.vw {τ : sw_St} {s : Nat} {l : Nat → Nat → Nat} {P : Nat → List Nat} {D : g_D} (h : pm_st τ 37 0 l D) (hl : pm_ld τ l P) (hs : s < l 0 2) (h6 : l 0 2 ≤ 6) (h52 : τ.1 0 52 = -1) : pm_vw τ l (D.1 0) (l 3 (2 * s + 1)) (D.2.1 s) s := by
  refine ⟨by omega, h.1, fun j hj => by have := h.2.2.2.1 s j hs hj; rwa [Nat.zero_add] at this, ?_, hl.2.2.2.2.1⟩
  rw [h52, if_neg (by exact pz_nm1 (by omega)), show 13 + 2 * s = 12 + (2 * s + 1) by omega]
  exact hl.2.2.2.2.2.2.1 _ (by omega)
theorem pm_st.op {τ : sw_St} {l : Nat → Nat → Nat} {D : g_D} (h : pm_st τ 37 0 l D) : pm_op τ l (fun k => (D.1 2).testBit k) := fun k hk => by
  have := h.2.2.1 k hk
  rwa [Nat.zero_add] at this
/-- what can be -/
def RG (l : Nat → Nat → Nat) (P : Nat → List Nat) (nm : g_N) (D : g_D) (U : List g_D) (F : List (Nat × Nat × Nat)) (T : List Nat) (sd : Nat) (im : List Nat) : Prop :=
  g_ld l P ∧ ((∀ f, f < l 0 0 → g_nk (nm 0 f)) ∧ ∀ s, s < l 0 2 → g_nk (nm 1 s)) ∧ g_dk l D ∧ (U.length ≤ 20 ∧ ∀ E ∈ U, g_dk l E) ∧ (F.length ≤ 16 ∧ ∀ x ∈ F, x.1 ≤ 30 ∧ x.2.1 < l 0 2 ∧ x.2.2 < 64) ∧ (T.length ≤ 1600 ∧ ∀ b ∈ T, b < 256) ∧ sd < 2 ^ 31 ∧ (im.length ≤ 94 ∧ ∀ b ∈ im, b < 256)
/-- class and reference stand alike -/
def RR (σ τ : sw_St) : Prop := ∃ (w : Nat) (l : Nat → Nat → Nat) (P : Nat → List Nat) (nm : g_N) (D : g_D) (U : List g_D) (F : List (Nat × Nat × Nat)) (T : List Nat) (sd : Nat) (rf : Nat → Int32) (ft : Int32 × Int32) (im : List Nat), RG l P nm D U F T sd im ∧ RX σ w l P nm D U F T sd rf ft im ∧ RM τ l P nm D U F T sd rf ft im

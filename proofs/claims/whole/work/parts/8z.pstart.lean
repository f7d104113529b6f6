/-! At the start the two stores stand alike. -/
abbrev ps_X : sw_St := sc_sto sc_pX sc_iX sc_csX
abbrev ps_M : sw_St := sc_sto id id sc_csM
def ps_D : g_D := (fun _ => 0, fun _ _ => 0, [])
theorem ps_x19 : (ps_X.1 19 1 = nI 0 ∧ ps_X.1 19 2 = nI 0) ∧ (ps_X.1 19 3 = nI 0 ∧ ps_X.1 19 4 = nI 0) := by decide +kernel
theorem ps_xr : ps_X.2.2 33 0 = some 19 ∧ ps_X.2.2 0 4 = some 6 ∧ ps_X.2.2 54 10 = some 60 ∧ ps_X.2.2 54 11 = some 61 := by decide +kernel
theorem ps_xc0 : ps_X.1 30 0 = nI 0 ∧ ps_X.1 31 0 = nI 3 ∧ ∀ i, i < 3 → ps_X.1 29 (0 + i) = nI (px_xc ((g_def 0).getD i 0)) := by decide +kernel
theorem ps_xc1 : ps_X.1 30 1 = nI 3 ∧ ps_X.1 31 1 = nI 4 ∧ ∀ i, i < 1 → ps_X.1 29 (3 + i) = nI (px_xc ((g_def 1).getD i 0)) := by decide +kernel
theorem ps_xc2 : ps_X.1 30 2 = nI 4 ∧ ps_X.1 31 2 = nI 5 ∧ ∀ i, i < 1 → ps_X.1 29 (4 + i) = nI (px_xc ((g_def 2).getD i 0)) := by decide +kernel
theorem ps_x38 : (ps_X.1 38 0 = nI 0 ∧ ps_X.1 38 1 = nI 0 ∧ ps_X.1 38 2 = nI 0) ∧ ps_X.1 38 10 = nI 0 ∧ ps_X.1 38 11 = nI 0 := by decide +kernel
theorem ps_x62 : ps_X.1 62 1 = nI 0 ∧ ps_X.1 62 2 = nI 0 ∧ ∀ j, j < 20 → ps_X.2.2 63 j = some (64 + 8 * j) := by decide +kernel
theorem ps_xz : ps_X.1 54 4 = nI 0 ∧ ps_X.1 0 1 = nI 0 ∧ ps_X.1 0 13 = nI 1 ∧ (∀ j, j < 6 → ps_X.1 226 j = 0) ∧ (ps_X.1 2 5 = 0 ∧ ps_X.1 2 6 = -1) ∧ ps_X.1 224 1 = nI 0 ∧ ps_X.1 34 2 = nI 0 := by decide +kernel
theorem ps_m28 : ps_M.1 28 4 = nI 0 ∧ ps_M.1 28 6 = nI 0 ∧ ps_M.1 28 5 = nI 0 ∧ ps_M.1 28 7 = nI 0 ∧ ∀ i, i < 3 → ps_M.1 34 (3 + i) = -1 := by decide +kernel
theorem ps_m37 : ps_M.1 37 0 = nI 0 ∧ ps_M.1 37 1 = nI 0 ∧ ps_M.1 37 84 = nI 0 := by decide +kernel
theorem ps_m0 : ps_M.1 0 68 = nI 0 ∧ ps_M.1 0 67 = nI 0 ∧ ps_M.1 0 63 = nI 0 ∧ ps_M.1 0 1 = nI 0 ∧ ps_M.2.1 0 69 = lN 1 ∧ (∀ j, j < 6 → ps_M.1 2 j = 0) ∧ (ps_M.1 0 7 = 0 ∧ ps_M.1 0 8 = -1) ∧ ps_M.1 0 105 = nI 0 ∧ (ps_M.1 0 52 = -1 ∧ ps_M.1 0 58 = 0) := by decide +kernel
theorem ps_wd : pm_wd ps_M := by
  have h : ∀ x ∈ pm_wl, ∀ i, i < x.2.length → ps_M.1 x.1 i = nI (x.2.getD i 0) := by decide +kernel
  exact h
theorem ps_RG : RG u_0.1 u_0.2.1 u_0.2.2.1 ps_D [] [] [] 1 [] := by
  refine ⟨u_0_ok.1, u_0_ok.2.1, ⟨by decide, by decide, by decide, fun s hs => (by cases hs), by decide, fun x hx => (by cases hx), fun s j hs => (by cases hs)⟩, ⟨by decide, fun E hE => (by cases hE)⟩, ⟨by decide, fun x hx => (by cases hx)⟩, ⟨by decide, fun x hx => (by cases hx)⟩, by decide, by decide, fun x hx => (by cases hx)⟩
theorem ps_RX : RX ps_X 19 u_0.1 u_0.2.1 u_0.2.2.1 ps_D [] [] [] 1 (fun _ => 0) (0, -1) [] := by
  refine ⟨⟨Or.inr rfl, ps_xr.1, ps_x19.1.1, ps_x19.1.2, ps_x19.2.1, ps_x19.2.2, fun f hf => (by cases hf), fun f hf => (by cases hf), fun f hf => (by cases hf), fun j hj => ?_⟩, ps_xr.2.1, ⟨fun f hf => (by cases hf), fun f hf => (by cases hf)⟩, ⟨ps_x38.1.1, ps_x38.1.2.1, ps_x38.1.2.2, fun s hs => (by cases hs), 0, by decide, ps_x38.2.1, ps_x38.2.2, fun i hi => (by cases hi)⟩, ⟨0, by decide, ps_x62.1, ps_x62.2.1, ps_x62.2.2, fun i E hi => (by cases hi)⟩, ⟨ps_xz.1, fun i hi => (by cases hi)⟩, ⟨ps_xz.2.1, fun i hi => (by cases hi)⟩, ps_xz.2.2.1, ps_xz.2.2.2.1, ps_xz.2.2.2.2.1, ⟨ps_xz.2.2.2.2.2.1, fun i hi => (by cases hi)⟩, ps_xz.2.2.2.2.2.2, Or.inl ⟨ps_xr.2.2.1, ps_xr.2.2.2⟩⟩
  have j3 : j = 0 ∨ j = 1 ∨ j = 2 := by omega
  rcases j3 with e | e | e
  · rw [e]
    exact ⟨0, ps_xc0.1, ps_xc0.2.1, by decide, ps_xc0.2.2⟩
  · rw [e]
    exact ⟨3, ps_xc1.1, ps_xc1.2.1, by decide, ps_xc1.2.2⟩
  · rw [e]
    exact ⟨4, ps_xc2.1, ps_xc2.2.1, by decide, ps_xc2.2.2⟩
theorem ps_RM : RM ps_M u_0.1 u_0.2.1 u_0.2.2.1 ps_D [] [] [] 1 (fun _ => 0) (0, -1) [] := by
  refine ⟨⟨ps_m28.1, ps_m28.2.1, ps_m28.2.2.1, ps_m28.2.2.2.1, fun f hf => (by cases hf), fun j hj => ?_, fun j hj => ?_, fun i hi => Or.inl ⟨ps_m28.2.2.2.2 i hi, rfl⟩⟩, ⟨fun f hf => (by cases hf), fun f hf => (by cases hf)⟩, ⟨ps_m37.1, ps_m37.2.1, fun k hk => (by cases hk), fun s j hs => (by cases hs), ps_m37.2.2, fun i hi => (by cases hi)⟩, ⟨0, by decide, ps_m0.1, ps_m0.2.1, fun i E hi => (by cases hi)⟩, ⟨ps_m0.2.2.1, fun i hi => (by cases hi)⟩, ⟨ps_m0.2.2.2.1, fun i hi => (by cases hi)⟩, ps_m0.2.2.2.2.1, ps_m0.2.2.2.2.2.1, ps_m0.2.2.2.2.2.2.1, ⟨ps_m0.2.2.2.2.2.2.2.1, fun i hi => (by cases hi)⟩, ps_m0.2.2.2.2.2.2.2.2, ps_wd⟩
  · have hj : j < 3 * 0 := hj
    omega
  · have hj : j < 2 * 0 := hj
    omega
theorem ps_RR : RR ps_X ps_M := ⟨19, u_0.1, u_0.2.1, u_0.2.2.1, ps_D, [], [], [], 1, fun _ => 0, (0, -1), [], ps_RG, ps_RX, ps_RM⟩

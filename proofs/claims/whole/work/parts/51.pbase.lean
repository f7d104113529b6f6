/-! Stores: reading behind writing; cells that stay. -/
theorem pz_I (σ : sw_St) (o k : Nat) (v : Int32) (o' k' : Nat) : (sw_uI σ o k v).1 o' k' = if o' = o ∧ k' = k then v else σ.1 o' k' := by
  unfold sw_uI upd
  by_cases h : o' = o
  · subst h
    by_cases h2 : k' = k <;> simp [h2]
  · simp [h]
theorem pz_Ie {σ : sw_St} {o k : Nat} {v : Int32} {o' k' : Nat} (h1 : o' = o) (h2 : k' = k) : (sw_uI σ o k v).1 o' k' = v := by
  rw [pz_I, if_pos ⟨h1, h2⟩]
theorem pz_Io {σ : sw_St} {o k : Nat} {v : Int32} {o' : Nat} (h : o' ≠ o) (k' : Nat) : (sw_uI σ o k v).1 o' k' = σ.1 o' k' := by
  rw [pz_I, if_neg (fun z => h z.1)]
theorem pz_Ik {σ : sw_St} {o k : Nat} {v : Int32} {k' : Nat} (h : k' ≠ k) (o' : Nat) : (sw_uI σ o k v).1 o' k' = σ.1 o' k' := by
  rw [pz_I, if_neg (fun z => h z.2)]
theorem pz_I2 (σ : sw_St) (o k : Nat) (v : Int32) : (sw_uI σ o k v).2 = σ.2 := rfl
theorem pz_L (σ : sw_St) (o k : Nat) (v : Int64) (o' k' : Nat) : (sw_uL σ o k v).2.1 o' k' = if o' = o ∧ k' = k then v else σ.2.1 o' k' := by
  unfold sw_uL vp_updL
  by_cases h : o' = o
  · subst h
    by_cases h2 : k' = k <;> simp [h2]
  · simp [h]
theorem pz_Le {σ : sw_St} {o k : Nat} {v : Int64} {o' k' : Nat} (h1 : o' = o) (h2 : k' = k) : (sw_uL σ o k v).2.1 o' k' = v := by
  rw [pz_L, if_pos ⟨h1, h2⟩]
theorem pz_Lo {σ : sw_St} {o k : Nat} {v : Int64} {o' : Nat} (h : o' ≠ o) (k' : Nat) : (sw_uL σ o k v).2.1 o' k' = σ.2.1 o' k' := by
  rw [pz_L, if_neg (fun z => h z.1)]
theorem pz_Lk {σ : sw_St} {o k : Nat} {v : Int64} {k' : Nat} (h : k' ≠ k) (o' : Nat) : (sw_uL σ o k v).2.1 o' k' = σ.2.1 o' k' := by
  rw [pz_L, if_neg (fun z => h z.2)]
theorem pz_L1 (σ : sw_St) (o k : Nat) (v : Int64) : (sw_uL σ o k v).1 = σ.1 := rfl
theorem pz_L2 (σ : sw_St) (o k : Nat) (v : Int64) : (sw_uL σ o k v).2.2 = σ.2.2 := rfl
/-- all cells but those of S stay -/
def pz_sm (S : List Nat) (σ σ' : sw_St) : Prop := ∀ o, o ∉ S → σ'.1 o = σ.1 o ∧ σ'.2.1 o = σ.2.1 o ∧ σ'.2.2 o = σ.2.2 o
theorem pz_sm.refl (S : List Nat) (σ : sw_St) : pz_sm S σ σ := fun _ _ => ⟨rfl, rfl, rfl⟩
theorem pz_sm.trans {S : List Nat} {σ σ1 σ2 : sw_St} (h : pz_sm S σ σ1) (h2 : pz_sm S σ1 σ2) : pz_sm S σ σ2 := fun o ho => by
  obtain ⟨a, b, c⟩ := h o ho
  obtain ⟨a2, b2, c2⟩ := h2 o ho
  exact ⟨a2.trans a, b2.trans b, c2.trans c⟩
theorem pz_sm.mono {S T : List Nat} {σ σ' : sw_St} (h : pz_sm S σ σ') (hs : ∀ x ∈ S, x ∈ T) : pz_sm T σ σ' := fun o ho => h o (fun z => ho (hs o z))
theorem pz_sm.I {S : List Nat} {σ σ' : sw_St} (h : pz_sm S σ σ') {o : Nat} (ho : o ∈ S) (k : Nat) (v : Int32) : pz_sm S σ (sw_uI σ' o k v) := fun o' h' => by
  obtain ⟨a, b, c⟩ := h o' h'
  refine ⟨?_, b, c⟩
  have : o' ≠ o := fun z => h' (z ▸ ho)
  funext k'
  rw [pz_Io this, a]
theorem pz_sm.L {S : List Nat} {σ σ' : sw_St} (h : pz_sm S σ σ') {o : Nat} (ho : o ∈ S) (k : Nat) (v : Int64) : pz_sm S σ (sw_uL σ' o k v) := fun o' h' => by
  obtain ⟨a, b, c⟩ := h o' h'
  refine ⟨a, ?_, c⟩
  have : o' ≠ o := fun z => h' (z ▸ ho)
  funext k'
  rw [pz_Lo this, b]
theorem pz_sm.r {S : List Nat} {σ σ' : sw_St} (h : pz_sm S σ σ') {o : Nat} (ho : o ∉ S) (k : Nat) : σ'.1 o k = σ.1 o k := by rw [(h o ho).1]
theorem pz_sm.rL {S : List Nat} {σ σ' : sw_St} (h : pz_sm S σ σ') {o : Nat} (ho : o ∉ S) (k : Nat) : σ'.2.1 o k = σ.2.1 o k := by rw [(h o ho).2.1]
theorem pz_sm.rR {S : List Nat} {σ σ' : sw_St} (h : pz_sm S σ σ') {o : Nat} (ho : o ∉ S) (k : Nat) : σ'.2.2 o k = σ.2.2 o k := by rw [(h o ho).2.2]
theorem pz_inb {n N : Nat} (h : n < N) (hN : N < 2 ^ 31) : sw_inb (nI n) N = true := by
  unfold sw_inb
  exact decide_eq_true (vp_in_nI h hN)
theorem pz_lit (n : Nat) : (OfNat.ofNat n : Int32) = nI (OfNat.ofNat n) := rfl
theorem pz_litL (n : Nat) : (OfNat.ofNat n : Int64) = lN (OfNat.ofNat n) := rfl
theorem pz_m1 : (-1 : Int32).toInt = -1 := by decide
theorem pz_nm1 {n : Nat} (h : n < 2 ^ 31) : ¬ nI n = -1 := by
  rw [fa_eq, nI_toInt h, pz_m1]
  omega
theorem pz_bit {n k : Nat} (hn : n < 2 ^ 31) (hk : k < 31) : (nI n >>> (nI k &&& 31)) &&& 1 = nI (n / 2 ^ k % 2) := by
  have h1 : nI k &&& 31 = nI k := by
    rw [show (31 : Int32) = nI (2 ^ 5 - 1) from rfl, fa_mask, Nat.mod_eq_of_lt (by omega)]
  rw [h1, pk_shrN hn (nI k) k ?_, show (1 : Int32) = nI (2 ^ 1 - 1) from rfl, fa_mask]
  have : ∀ k, k < 31 → ((nI k).toBitVec.smod 32).toNat = k := by decide
  exact this k hk
theorem pz_shl {k : Nat} (hk : k < 31) : (1 : Int32) <<< (nI k &&& 31) = nI (2 ^ k) := by
  have : ∀ k, k < 31 → (1 : Int32) <<< (nI k &&& 31) = nI (2 ^ k) := by decide
  exact this k hk
/-- the shapes of the uplands -/
theorem ld_O {w : Nat} (h : w = 6 ∨ w = 19) : sw_isO sw_gX w 9 = true := by rcases h with rfl | rfl <;> decide +kernel
theorem ld_C {w : Nat} (h : w = 6 ∨ w = 19) : sw_isO sw_gX (w + 9) 0 = true := by rcases h with rfl | rfl <;> decide +kernel
theorem ld_A1 {w : Nat} (h : w = 6 ∨ w = 19) : sw_isA sw_gX (w + 1) 0 = true := by rcases h with rfl | rfl <;> decide +kernel
theorem ld_n1 {w : Nat} (h : w = 6 ∨ w = 19) : sw_ln sw_gX (w + 1) = 8 := by rcases h with rfl | rfl <;> decide +kernel
theorem ld_A2 {w : Nat} (h : w = 6 ∨ w = 19) : sw_isA sw_gX (w + 2) 0 = true := by rcases h with rfl | rfl <;> decide +kernel
theorem ld_n2 {w : Nat} (h : w = 6 ∨ w = 19) : sw_ln sw_gX (w + 2) = 8 := by rcases h with rfl | rfl <;> decide +kernel
theorem ld_A3 {w : Nat} (h : w = 6 ∨ w = 19) : sw_isA sw_gX (w + 3) 0 = true := by rcases h with rfl | rfl <;> decide +kernel
theorem ld_n3 {w : Nat} (h : w = 6 ∨ w = 19) : sw_ln sw_gX (w + 3) = 10 := by rcases h with rfl | rfl <;> decide +kernel
theorem ld_A4 {w : Nat} (h : w = 6 ∨ w = 19) : sw_isA sw_gX (w + 4) 0 = true := by rcases h with rfl | rfl <;> decide +kernel
theorem ld_n4 {w : Nat} (h : w = 6 ∨ w = 19) : sw_ln sw_gX (w + 4) = 10 := by rcases h with rfl | rfl <;> decide +kernel
theorem ld_A5 {w : Nat} (h : w = 6 ∨ w = 19) : sw_isA sw_gX (w + 5) 0 = true := by rcases h with rfl | rfl <;> decide +kernel
theorem ld_n5 {w : Nat} (h : w = 6 ∨ w = 19) : sw_ln sw_gX (w + 5) = 10 := by rcases h with rfl | rfl <;> decide +kernel
theorem ld_A6 {w : Nat} (h : w = 6 ∨ w = 19) : sw_isA sw_gX (w + 6) 0 = true := by rcases h with rfl | rfl <;> decide +kernel
theorem ld_n6 {w : Nat} (h : w = 6 ∨ w = 19) : sw_ln sw_gX (w + 6) = 6 := by rcases h with rfl | rfl <;> decide +kernel
theorem ld_A7 {w : Nat} (h : w = 6 ∨ w = 19) : sw_isA sw_gX (w + 7) 0 = true := by rcases h with rfl | rfl <;> decide +kernel
theorem ld_n7 {w : Nat} (h : w = 6 ∨ w = 19) : sw_ln sw_gX (w + 7) = 6 := by rcases h with rfl | rfl <;> decide +kernel
theorem ld_A8 {w : Nat} (h : w = 6 ∨ w = 19) : sw_isA sw_gX (w + 8) 0 = true := by rcases h with rfl | rfl <;> decide +kernel
theorem ld_n8 {w : Nat} (h : w = 6 ∨ w = 19) : sw_ln sw_gX (w + 8) = 6 := by rcases h with rfl | rfl <;> decide +kernel
theorem ld_A10 {w : Nat} (h : w = 6 ∨ w = 19) : sw_isA sw_gX (w + 10) 0 = true := by rcases h with rfl | rfl <;> decide +kernel
theorem ld_n10 {w : Nat} (h : w = 6 ∨ w = 19) : sw_ln sw_gX (w + 10) = 1608 := by rcases h with rfl | rfl <;> decide +kernel
theorem ld_A11 {w : Nat} (h : w = 6 ∨ w = 19) : sw_isA sw_gX (w + 11) 0 = true := by rcases h with rfl | rfl <;> decide +kernel
theorem ld_n11 {w : Nat} (h : w = 6 ∨ w = 19) : sw_ln sw_gX (w + 11) = 3 := by rcases h with rfl | rfl <;> decide +kernel
theorem ld_A12 {w : Nat} (h : w = 6 ∨ w = 19) : sw_isA sw_gX (w + 12) 0 = true := by rcases h with rfl | rfl <;> decide +kernel
theorem ld_n12 {w : Nat} (h : w = 6 ∨ w = 19) : sw_ln sw_gX (w + 12) = 3 := by rcases h with rfl | rfl <;> decide +kernel
theorem ld_A10' {w : Nat} (h : w = 6 ∨ w = 19) : sw_isA sw_gX (w + 9 + 1) 0 = true := ld_A10 h
theorem ld_n10' {w : Nat} (h : w = 6 ∨ w = 19) : sw_ln sw_gX (w + 9 + 1) = 1608 := ld_n10 h
/-- the shapes of the states -/
theorem st_O {q : Nat} (h : q = 38 ∨ q = 46) : sw_isO sw_gX q 8 = true := by rcases h with rfl | rfl <;> decide +kernel
theorem st_A1 {q : Nat} (h : q = 38 ∨ q = 46) : sw_isA sw_gX (q + 1) 0 = true := by rcases h with rfl | rfl <;> decide +kernel
theorem st_n1 {q : Nat} (h : q = 38 ∨ q = 46) : sw_ln sw_gX (q + 1) = 6 := by rcases h with rfl | rfl <;> decide +kernel
theorem st_A2 {q : Nat} (h : q = 38 ∨ q = 46) : sw_isA sw_gX (q + 2) 0 = true := by rcases h with rfl | rfl <;> decide +kernel
theorem st_n2 {q : Nat} (h : q = 38 ∨ q = 46) : sw_ln sw_gX (q + 2) = 6 := by rcases h with rfl | rfl <;> decide +kernel
theorem st_A3 {q : Nat} (h : q = 38 ∨ q = 46) : sw_isA sw_gX (q + 3) 0 = true := by rcases h with rfl | rfl <;> decide +kernel
theorem st_n3 {q : Nat} (h : q = 38 ∨ q = 46) : sw_ln sw_gX (q + 3) = 6 := by rcases h with rfl | rfl <;> decide +kernel
theorem st_A4 {q : Nat} (h : q = 38 ∨ q = 46) : sw_isA sw_gX (q + 4) 0 = true := by rcases h with rfl | rfl <;> decide +kernel
theorem st_n4 {q : Nat} (h : q = 38 ∨ q = 46) : sw_ln sw_gX (q + 4) = 6 := by rcases h with rfl | rfl <;> decide +kernel
theorem st_A5 {q : Nat} (h : q = 38 ∨ q = 46) : sw_isA sw_gX (q + 5) 0 = true := by rcases h with rfl | rfl <;> decide +kernel
theorem st_n5 {q : Nat} (h : q = 38 ∨ q = 46) : sw_ln sw_gX (q + 5) = 6 := by rcases h with rfl | rfl <;> decide +kernel
theorem st_A6 {q : Nat} (h : q = 38 ∨ q = 46) : sw_isA sw_gX (q + 6) 0 = true := by rcases h with rfl | rfl <;> decide +kernel
theorem st_n6 {q : Nat} (h : q = 38 ∨ q = 46) : sw_ln sw_gX (q + 6) = 48 := by rcases h with rfl | rfl <;> decide +kernel
theorem st_A7 {q : Nat} (h : q = 38 ∨ q = 46) : sw_isA sw_gX (q + 7) 0 = true := by rcases h with rfl | rfl <;> decide +kernel
theorem st_n7 {q : Nat} (h : q = 38 ∨ q = 46) : sw_ln sw_gX (q + 7) = 40 := by rcases h with rfl | rfl <;> decide +kernel

/-! The law: two worlds side by side. -/
section lx_rules
variable {p : Program} {l : Launch} {e : Env} {s : State} {m : MethodId} {below : List Frame} {meth : Method} {c : Code} {b : Nat} {D : va_G} {cA : Nat → ClassId} {aX aM : Nat → Nat} {cells slots : Nat} {Q : State → Prop} {args : Array Value}
/-- the machine in the law, behind the constructors -/
def lx_C (l : Launch) (p : Program) (s : State) (m : MethodId) (meth : Method) (c : Code) (args : Array Value) (D : va_G) (cA : Nat → ClassId) (aX aM : Nat → Nat) : Prop :=
  p.tables.exec = Jvm.exec ∧ c.code = code ∧ c.maxLocals = 4 ∧ s.vm.findClass "StrayWoolLaw" = some m.cls ∧ (∀ w ∈ sw_T, w.before args s = true) ∧ va_K D vwCl (sw_tys (l, D, aX, cA)) s ∧ (∀ i j : Nat, i < 227 → j < 75 → aX i ≠ aM j) ∧ sw_Z s (fun q => s.heap.size ≤ q)
/-- at a place of the law: both worlds, nothing old written -/
def lx_W (p : Program) (l : Launch) (e : Env) (s : State) (m : MethodId) (args : Array Value) (below : List Frame) (meth : Method) (c : Code) (D : va_G) (cA : Nat → ClassId) (aX aM : Nat → Nat) (cells slots : Nat) (Q : State → Prop) (pc : Nat) (lv : List (Nat × Value)) (st : List Value) (σx σm : sw_St) : Prop :=
  ∀ (H : Heap) (locs : List Loc) (ls : Array Slot), va_P D vwCl (sw_w (l, D, aX, cA) sw_gX σx) H → va_D (fun q => s.heap.size ≤ q) (sw_w (l, D, aX, cA) sw_gX σx) → va_P D vwCl (sw_w (l, D, aM, cA) sw_gM σm) H → va_D (fun q => s.heap.size ≤ q) (sw_w (l, D, aM, cA) sw_gM σm) → va_S (fun q => s.heap.size ≤ q) s.heap H locs → lv_has ls 4 lv → W p l e room_1 s m args below meth c H locs cells slots Q (F0 m pc ls st)
theorem lx_at {E : sw_E} {G : sw_G} {σ : sw_St} {k : Nat} {q : Nat × va_E} (h : (sw_w E G σ)[k]? = some q) : k < G.1 ∧ q.1 = E.2.2.1 k := by
  have hk : k < (sw_w E G σ).length := (List.getElem?_eq_some_iff.mp h).1
  have hk' : k < G.1 := by simpa [sw_w] using hk
  rw [sw_w_at hk'] at h
  cases h
  exact ⟨hk', rfl⟩
/-- the other world stands still -/
theorem lx_still {Ea Eb : sw_E} {Ga Gb : sw_G} {σa σb : sw_St} {H H1 : Heap} (hap : ∀ i j : Nat, i < Ga.1 → j < Gb.1 → Ea.2.2.1 i ≠ Eb.2.2.1 j) (hP : va_P D vwCl (sw_w Eb Gb σb) H) (hk : ∀ q : Nat, q < H.size → ¬ va_A (sw_w Ea Ga σa) H.size q → H1[q]? = H[q]?) : va_P D vwCl (sw_w Eb Gb σb) H1 := by
  refine hP.kept (fun k q hq => hk q.1 (hP k q hq).lt (fun z => ?_))
  obtain ⟨g1, g2⟩ := lx_at hq
  rcases z with ⟨k2, e2, h2⟩ | h2
  · obtain ⟨g3, g4⟩ := lx_at h2
    exact hap k2 k g3 g1 (g4.symm.trans g2)
  · have := (hP k q hq).lt
    omega
theorem lx_nm {i : Nat} {V : vw_C} (h : vwCl[i]? = some V) : V.1 = sw_nm i := sc_nm_vw h
theorem lx_words {N : sw_M} {idx : Nat} (hlk : Cond.methodLink "StrayWoolLaw" idx N.1 ∈ sw_T) (hok : sw_okV N) : GoodIn sw_T (wsV "StrayWoolLaw" idx N.1.cls N.1 (sw_ws N)) := by
  intro w hw
  rcases List.mem_append.mp hw with h | h
  · simp only [List.mem_cons, List.not_mem_nil, or_false] at h
    rcases h with rfl | rfl | rfl | rfl
    · exact sw_goodT _ hlk
    · exact sw_goodT _ hok.2.1
    · exact sw_goodT _ hok.2.2
    · exact sw_goodT _ hok.1.2.1
  · exact sw_wsT hok.1 w h
theorem lx_room {N : sw_M} {d : Nat} (h : N.2.2.1 ≤ 40) (hd : d ≤ 200) : (sw_rm d).frames + 1 ≤ room_1.frames ∧ 8 + (N.2.2.1 + 11) + (sw_rm d).locals ≤ room_1.locals := by
  refine ⟨?_, ?_⟩
  · show d + 1 ≤ 2048
    omega
  · show 8 + (N.2.2.1 + 11) + 70 * d ≤ 84000
    omega
/-- a call of the class's method -/
theorem lx_callX {N : sw_M} {d idx n pc : Nat} {lv : List (Nat × Value)} {As rest : List Value} {σx σm : sw_St} {Q' : Option Value → sw_St → Prop} (C : lx_C l p s m meth c args D cA aX aM) (hd : decode code pc = .ok (.invokevirtual idx, 3)) (hlk : Cond.methodLink "StrayWoolLaw" idx N.1 ∈ sw_T) (hok : sw_okV N) (hN : N.2.2.2.2 = 10) (hcl : sw_nm N.2.2.2.2 = N.1.cls) (hpd : (parseMethodDescriptor N.1.desc).map (fun d => d.parameters.length) = some n) (hn : As.length = n) (hAs : ∀ a : Nat → Nat, As.map (sw_cv a) = As) (hcat : (rest.map fun v => v.category).sum ≤ 8) (hd2 : d ≤ 200) (hcs : cells ≤ 600000 ∧ slots ≤ 7302250)
    (hM : sw_K (l, D, aX, cA) sw_gX N d (.ref 0 :: As) σx Q') (k : ∀ r σx', Q' r σx' → lx_W p l e s m args below meth c D cA aX aM cells slots Q (pc + 3) lv ((r.map (sw_cv aX)).toList ++ rest) σx' σm) : lx_W p l e s m args below meth c D cA aX aM cells slots Q pc lv (As.reverse ++ .ref (aX 0) :: rest) σx σm := by
  intro H locs ls hPX hDX hPM hDM hS hl
  obtain ⟨C1, C2, C3, C4, C5, C6, C7, C8⟩ := C
  have hK : va_K D vwCl (sw_tys (l, D, aX, cA)) s := C6
  have hF : ∀ q, va_A (sw_w (l, D, aX, cA) sw_gX σx) H.size q → s.heap.size ≤ q := sw_inA (E := (l, D, aX, cA)) hDX hS (fun _ h => h)
  have hat : (sw_w (l, D, aX, cA) sw_gX σx)[0]? = some (aX 0, .inr (10, (List.range (sw_nf 10)).map fun k => sw_cv aX (sw_fv σx 10 0 k))) := by
    rw [sw_w_at (show 0 < sw_gX.1 by decide), sw_cell_o (c := 10) (by decide +kernel)]
  have hrc := va_recv hK hPX (ci := 10) (q0 := 0) (q := (RX10, TX10, 14)) rfl hat
  have hrn : (RX10, TX10, 14).1 = N.1.cls := by rw [← hcl, hN]; rfl
  rw [hrn] at hrc
  have hmap : (Value.ref 0 :: As).map (sw_cv aX) = .ref (aX 0) :: As := by rw [List.map_cons, hAs]; rfl
  have hM' := hM H.size
  rw [hmap] at hM'
  have hbl := sw_pc (E := (l, D, aX, cA)) (G := sw_gX) (σ := σx) (sz := H.size) (av := .ref (aX 0) :: As)
  have hrun := va_runV (As := As) (rest := rest) (b := aX 0) (g := F0 m pc ls (As.reverse ++ .ref (aX 0) :: rest)) (below := below) (locs := locs) (cells := cells) (slots := slots) (e := e) (meth := meth) (R := room_1) ⟨C1, C2, C3, C4, C5⟩ hM'
    (cwV n C5 (lx_words hlk hok) rfl rfl rfl ⟨rfl, hok.1.2.2.2.1, hok.1.2.2.2.2, hpd⟩ (lx_room hok.1.2.2.1 hd2))
    ⟨hbl, hrc, fun U hU hW => ⟨rfl, by rw [hU], by rw [hU]; exact hPX, va_K.moved hW.alike hK, hDX.weaken (fun _ _ _ _ => trivial), C8.mv hW hU hS hF⟩⟩ rfl hn hl.1 rfl (lv_room hcat) hd ⟨hcs.1, hcs.2⟩
  intro T hT X
  obtain ⟨v, st₀, t, T', Lc, g0, X', hLc, e1, e2, ⟨⟨r, σ', hv, hq, hP1, hK1, hD1⟩, hz, hk⟩, stp⟩ := hrun T hT X
  cases hv
  rw [g0] at hz hk
  have hS1 : va_S (fun q => s.heap.size ≤ q) s.heap T'.heap (locs ++ Lc) := ⟨Nat.le_trans hS.1 (by rw [e1]; exact hz), fun q q1 q2 => by rw [e1, hk q (Nat.lt_of_lt_of_le q1 hS.1) (fun z => q2 (hF q z))]; exact hS.2.1 q q1 q2, fun q hq => by
      rcases List.mem_append.mp hq with h | h
      · exact hS.2.2 q h
      · exact hF _ (hLc q h)⟩
  have hPM1 : va_P D vwCl (sw_w (l, D, aM, cA) sw_gM σm) T'.heap := by
    rw [e1]
    exact lx_still (Ea := (l, D, aX, cA)) (Ga := sw_gX) C7 hPM hk
  obtain ⟨t2, a1, b1⟩ := k r σ' hq T'.heap (locs ++ Lc) ls (by rw [e1]; exact hP1) (hD1.weaken (fun _ q _ h => hF q.1 h)) hPM1 hDM hS1 hl T' rfl X'
  exact ⟨t2, stp t2 a1, b1⟩
/-- a call of the reference's method -/
theorem lx_callM {N : sw_M} {d idx n pc : Nat} {lv : List (Nat × Value)} {As rest : List Value} {σx σm : sw_St} {Q' : Option Value → sw_St → Prop} (C : lx_C l p s m meth c args D cA aX aM) (hd : decode code pc = .ok (.invokevirtual idx, 3)) (hlk : Cond.methodLink "StrayWoolLaw" idx N.1 ∈ sw_T) (hok : sw_okV N) (hN : N.2.2.2.2 = 11) (hcl : sw_nm N.2.2.2.2 = N.1.cls) (hpd : (parseMethodDescriptor N.1.desc).map (fun d => d.parameters.length) = some n) (hn : As.length = n) (hAs : ∀ a : Nat → Nat, As.map (sw_cv a) = As) (hcat : (rest.map fun v => v.category).sum ≤ 8) (hd2 : d ≤ 200) (hcs : cells ≤ 600000 ∧ slots ≤ 7302250)
    (hM : sw_K (l, D, aM, cA) sw_gM N d (.ref 0 :: As) σm Q') (k : ∀ r σm', Q' r σm' → lx_W p l e s m args below meth c D cA aX aM cells slots Q (pc + 3) lv ((r.map (sw_cv aM)).toList ++ rest) σx σm') : lx_W p l e s m args below meth c D cA aX aM cells slots Q pc lv (As.reverse ++ .ref (aM 0) :: rest) σx σm := by
  intro H locs ls hPX hDX hPM hDM hS hl
  obtain ⟨C1, C2, C3, C4, C5, C6, C7, C8⟩ := C
  have hK : va_K D vwCl (sw_tys (l, D, aM, cA)) s := C6
  have hF : ∀ q, va_A (sw_w (l, D, aM, cA) sw_gM σm) H.size q → s.heap.size ≤ q := sw_inA (E := (l, D, aM, cA)) hDM hS (fun _ h => h)
  have hat : (sw_w (l, D, aM, cA) sw_gM σm)[0]? = some (aM 0, .inr (11, (List.range (sw_nf 11)).map fun k => sw_cv aM (sw_fv σm 11 0 k))) := by
    rw [sw_w_at (show 0 < sw_gM.1 by decide), sw_cell_o (c := 11) (by decide +kernel)]
  have hrc := va_recv hK hPM (ci := 11) (q0 := 0) (q := (RX11, TX11, 106)) rfl hat
  have hrn : (RX11, TX11, 106).1 = N.1.cls := by rw [← hcl, hN]; rfl
  rw [hrn] at hrc
  have hmap : (Value.ref 0 :: As).map (sw_cv aM) = .ref (aM 0) :: As := by rw [List.map_cons, hAs]; rfl
  have hM' := hM H.size
  rw [hmap] at hM'
  have hbl := sw_pc (E := (l, D, aM, cA)) (G := sw_gM) (σ := σm) (sz := H.size) (av := .ref (aM 0) :: As)
  have hrun := va_runV (As := As) (rest := rest) (b := aM 0) (g := F0 m pc ls (As.reverse ++ .ref (aM 0) :: rest)) (below := below) (locs := locs) (cells := cells) (slots := slots) (e := e) (meth := meth) (R := room_1) ⟨C1, C2, C3, C4, C5⟩ hM'
    (cwV n C5 (lx_words hlk hok) rfl rfl rfl ⟨rfl, hok.1.2.2.2.1, hok.1.2.2.2.2, hpd⟩ (lx_room hok.1.2.2.1 hd2))
    ⟨hbl, hrc, fun U hU hW => ⟨rfl, by rw [hU], by rw [hU]; exact hPM, va_K.moved hW.alike hK, hDM.weaken (fun _ _ _ _ => trivial), C8.mv hW hU hS hF⟩⟩ rfl hn hl.1 rfl (lv_room hcat) hd ⟨hcs.1, hcs.2⟩
  intro T hT X
  obtain ⟨v, st₀, t, T', Lc, g0, X', hLc, e1, e2, ⟨⟨r, σ', hv, hq, hP1, hK1, hD1⟩, hz, hk⟩, stp⟩ := hrun T hT X
  cases hv
  rw [g0] at hz hk
  have hS1 : va_S (fun q => s.heap.size ≤ q) s.heap T'.heap (locs ++ Lc) := ⟨Nat.le_trans hS.1 (by rw [e1]; exact hz), fun q q1 q2 => by rw [e1, hk q (Nat.lt_of_lt_of_le q1 hS.1) (fun z => q2 (hF q z))]; exact hS.2.1 q q1 q2, fun q hq => by
      rcases List.mem_append.mp hq with h | h
      · exact hS.2.2 q h
      · exact hF _ (hLc q h)⟩
  have hPX1 : va_P D vwCl (sw_w (l, D, aX, cA) sw_gX σx) T'.heap := by
    rw [e1]
    exact lx_still (Ea := (l, D, aM, cA)) (Ga := sw_gM) (Eb := (l, D, aX, cA)) (Gb := sw_gX) (fun i j hi hj => (C7 j i hj hi).symm) hPX hk
  obtain ⟨t2, a1, b1⟩ := k r σ' hq T'.heap (locs ++ Lc) ls hPX1 hDX (by rw [e1]; exact hP1) (hD1.weaken (fun _ q _ h => hF q.1 h)) hS1 hl T' rfl X'
  exact ⟨t2, stp t2 a1, b1⟩
end lx_rules

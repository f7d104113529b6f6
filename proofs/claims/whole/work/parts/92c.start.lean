/-! The law from its entry. -/
theorem ws_all : ll_all RR := ⟨op_0, op_1, op_2, op_3, op_4, op_5, op_6, op_7, op_8, op_9, op_10, op_11, op_12, op_13, op_14, op_15, op_16, op_17, op_18, op_19, op_20, op_21, op_22, op_23, op_24, op_25, op_26, op_27, op_28, op_29, op_30, op_31, op_32, op_33, op_34, op_35, op_36, op_37⟩
theorem ws_szX : sc_csX.length = 227 ∧ sc_sz sc_csX ≤ 100000 := by decide +kernel
theorem ws_szM : sc_csM.length = 75 ∧ sc_sz sc_csM ≤ 100000 := by decide +kernel
theorem ws_ndX : va_nd ((List.range sw_gX.1).map sc_pX) = true ∧ va_nd (List.range 227) = true := by decide +kernel
theorem ws_fm {α : Type} {is : List Nat} {f : Nat → Option α} {ws : List α} (h : is.map f = ws.map some) : is.filterMap f = ws := by
  have h2 : (is.map f).filterMap id = (ws.map some).filterMap id := by rw [h]
  rw [List.filterMap_map, List.filterMap_map] at h2
  have h3 : ws.filterMap (id ∘ some) = ws := by
    show ws.filterMap some = ws
    exact List.filterMap_some
  rw [h3] at h2
  exact h2
theorem ws_bX : sc_pX 0 = 0 ∧ ∀ i, i < 227 → sc_pX i < 227 := by decide +kernel
theorem ws_d (pc : Nat) {i : Instr} {n : Nat} (h : decode code pc = .ok (i, n)) : decode code pc = .ok (i, n) := h
theorem ws_okX : sw_ok m_X10_init ∧ Cond.instanceMethod yX10_init ∈ sw_T := mk_X10_init
theorem ws_okM : sw_ok m_X11_init ∧ Cond.instanceMethod yX11_init ∈ sw_T := mk_X11_init
theorem ws_lkX : Cond.methodLink "StrayWoolLaw" 9 yX10_init ∈ sw_T := sw_T_at 149 (by decide +kernel)
theorem ws_lkM : Cond.methodLink "StrayWoolLaw" 12 yX11_init ∈ sw_T := sw_T_at 1251 (by decide +kernel)
theorem ws_newI {args : Array Value} {s : State} (hts : ∀ w ∈ lw_tbl, w.before args s = true) : (Cond.classLink "StrayWoolLaw" 7 (sw_nm 10)).before args s = true ∧ (Cond.instantiable (sw_nm 10) (sw_nf 10)).before args s = true ∧ (Cond.initialized (sw_nm 10)).before args s = true ∧ (Cond.classLink "StrayWoolLaw" 10 (sw_nm 11)).before args s = true ∧ (Cond.instantiable (sw_nm 11) (sw_nf 11)).before args s = true ∧ (Cond.initialized (sw_nm 11)).before args s = true :=
  ⟨ws_at hts 147 (by decide +kernel), ws_at hts 148 (by decide +kernel), ws_at hts 127 (by decide +kernel), ws_at hts 1249 (by decide +kernel), ws_at hts 1250 (by decide +kernel), ws_at hts 138 (by decide +kernel)⟩
/-- a new object of the class, as the law makes it -/
theorem ws_new {p : Program} {l : Launch} {e : Env} {s : State} {m : MethodId} {args : Array Value} {below : List Frame} {meth : Method} {c : Code} {D : va_G} {cA : Nat → ClassId} {Q : State → Prop} {cc idx pc cells slots : Nat} {ws : va_W} {H : Heap} {locs : List Loc} {ls : Array Slot} {rest : List Value}
    (hx : p.tables.exec = Jvm.exec) (hb : c.code = code) (hown : s.vm.findClass "StrayWoolLaw" = some m.cls) (hts : ∀ w ∈ sw_T, w.before args s = true) (hK : ∀ (l : Launch) (a : Nat → Nat), va_K D vwCl (sw_tys (l, D, a, cA)) s) (h12 : cc < 12)
    (hcl : (Cond.classLink "StrayWoolLaw" idx (sw_nm cc)).before args s = true) (hinst : (Cond.instantiable (sw_nm cc) (sw_nf cc)).before args s = true) (hini : (Cond.initialized (sw_nm cc)).before args s = true) (hd : decode code pc = .ok (.new idx, 3))
    (hP : va_P D vwCl ws H) (hD : va_D (fun q => s.heap.size ≤ q) ws) (hS : va_S (fun q => s.heap.size ≤ q) s.heap H locs) (hc : cells + 1 ≤ 600000) (hs : slots + sw_nf cc ≤ 7302250)
    (k : ∀ (q : Nat) (H1 : Heap), va_P D vwCl (ws ++ [(q, .inr (cc, sc_df cc))]) H1 → va_D (fun q => s.heap.size ≤ q) (ws ++ [(q, .inr (cc, sc_df cc))]) → va_S (fun q => s.heap.size ≤ q) s.heap H1 locs → W p l e room_1 s m args below meth c H1 locs (cells + 1) (slots + sw_nf cc) Q (F0 m (pc + 3) ls (.ref q :: rest))) :
    W p l e room_1 s m args below meth c H locs cells slots Q (F0 m pc ls rest) := by
  obtain ⟨V, hV⟩ : ∃ V, vwCl[cc]? = some V := ⟨_, List.getElem?_eq_getElem (show cc < vwCl.length from h12)⟩
  obtain ⟨g1, g2, g3, ⟨ty0, g4⟩, g5⟩ := sw_vw hV
  have hVn := sc_nm_vw hV
  have hV2 : vwCl[cc]? = some (sw_nm cc, V.2.1, sw_nf cc) := by rw [hV, ← hVn, ← g2]
  refine va_new (fs := sc_df cc) (T := V.2.1) (N := sw_nf cc) hx hb hts (by rw [← hVn, ← g2]; exact g3) ty0 (by rw [← g2]; exact g4) hown hcl hinst hini (hK l id) hP hD hS (fun _ h => h) hV2 (fun j hj => ?_) hc hs hd k
  have h9 := sc_df_ok cc h12 j hj
  rw [hV] at h9
  simp only at h9
  rw [g4 j (by rw [g2]; exact hj)] at h9
  exact Option.some.inj h9
set_option maxHeartbeats 4000000 in
theorem whole_start {p : Program} {e : Env} {s : State} {m : MethodId} {below : List Frame} {meth : Method} {c : Code} (l : Launch) {b L : Nat} {xs : Nat → Int32} (hL : L ≤ 3072) (C0 : lw_At p s m meth c b L xs) : W p l e room_1 s m #[Value.ref b] below meth c s.heap [] 0 0 (lw_Z below #[Value.ref b] s) (entryFrame m ([Value.ref b] : List Value).toArray 4) := by
  obtain ⟨hx, hb, hr, hml, hown, hts, hX, hbl, hlocks, hgv⟩ := id C0
  have hown : s.vm.findClass "StrayWoolLaw" = some m.cls := hown
  have htT : ∀ w ∈ sw_T, w.before #[Value.ref b] s = true := fun w hw => hts w (List.mem_filter.mp hw).1
  obtain ⟨D, cA, hK⟩ := ws_K hts
  have hN := ws_N hts
  have hZ := ws_Z hts hgv
  obtain ⟨n1, n2, n3, n4, n5, n6⟩ := ws_newI hts
  have hS : va_S (fun q : Nat => s.heap.size ≤ q) s.heap s.heap [] := va_S.rf
  have hP : va_P D vwCl [] s.heap := fun k q h => by simp at h
  have hD : va_D (fun q : Nat => s.heap.size ≤ q) [] := ⟨fun i j p q h => by simp at h, fun k q h => by simp at h⟩
  have hl := lv_entry ([.ref b]) (n := 4) (Nat.le_of_ble_eq_true rfl)
  rw [lg_entry_eq]
  generalize (lg_sl ([.ref b]) ++ List.replicate (4 - (lg_sl ([.ref b])).length) Slot.unset).toArray = ls at hl ⊢
  have hl : lv_has ls 4 [(0, .ref b)] := hl
  have szX := ws_szX
  have szM := ws_szM
  have nf10 : sw_nf 10 = 14 := by decide +kernel
  have nf11 : sw_nf 11 = 106 := by decide +kernel
  -- the class's object
  refine ws_new (cc := 10) (idx := 7) hx hb hown htT hK (by omega) n1 n2 n3 (by decide +kernel) hP hD hS (by decide) (by decide) (fun q0 H1 hP1 hD1 hS1 => ?_)
  refine lv_dup hx hb (by decide +kernel) rfl ?_
  refine ws_ctor (N := m_X10_init) (d := 6) (cc := 10) (idx := 9) (ws := []) hx hb hml hown htT hK hN (by decide +kernel) ws_lkX ws_okX rfl (by decide +kernel) (by decide) rfl rfl (by decide +kernel) sc_soX (by omega) rfl hP1 hD1 hS1 hl ⟨by rw [szX.1]; decide, by omega⟩ (fun H2 locs2 a ha hP2 hD2 hS2 => ?_)
  refine lv_astore_n (k := 1) (i := 1) (lv' := [(1, .ref q0), (0, .ref b)]) hx hb (by decide +kernel) rfl hl (by decide) rfl (fun ls hl => ?_)
  -- the reference's object
  have hwl : ([] ++ sc_w a cA sc_csX).length = 227 := by rw [List.nil_append, sc_len, szX.1]
  refine ws_new (cc := 11) (idx := 10) hx hb hown htT hK (by omega) n4 n5 n6 (by decide +kernel) hP2 hD2 hS2 (by rw [szX.1]; decide) (by omega) (fun q1 H3 hP3 hD3 hS3 => ?_)
  refine lv_dup hx hb (by decide +kernel) rfl ?_
  refine ws_ctor (N := m_X11_init) (d := 3) (cc := 11) (idx := 12) (ws := [] ++ sc_w a cA sc_csX) hx hb hml hown htT hK hN (by decide +kernel) ws_lkM ws_okM rfl (by decide +kernel) (by decide) rfl rfl (by decide +kernel) sc_soM (by omega) (by rw [hwl]; exact ws_ndX.2) hP3 hD3 hS3 hl ⟨by rw [szX.1, szM.1]; decide, by omega⟩ (fun H4 locs4 aM haM hP4 hD4 hS4 => ?_)
  refine lv_astore_n (k := 2) (i := 2) (lv' := [(2, .ref q1), (1, .ref q0), (0, .ref b)]) hx hb (by decide +kernel) rfl hl (by decide) rfl (fun ls hl => ?_)
  refine lv_iconst (n := 0) (v := 0) hx hb (by decide +kernel) (by decide) ?_
  refine lv_istore_n (k := 3) (i := 3) (lv' := [(3, .int 0), (2, .ref q1), (1, .ref q0), (0, .ref b)]) hx hb (by decide +kernel) rfl hl (by decide) rfl (fun ls hl => ?_)
  rw [List.nil_append] at hP4 hD4
  -- the two worlds as stores
  have lX : (sc_w a cA sc_csX).length = 227 := by rw [sc_len, szX.1]
  have lM : (sc_w aM cA sc_csM).length = 75 := by rw [sc_len, szM.1]
  have sX := sc_start (l := l) (D := D) (cA := cA) (a := a) sc_mtX
  have sM := sc_start (l := l) (D := D) (cA := cA) (a := aM) sc_mtM
  have inL : ∀ i, i < 227 → (sc_w a cA sc_csX ++ sc_w aM cA sc_csM)[i]? = (sc_w a cA sc_csX)[i]? := fun i hi => List.getElem?_append_left (by rw [lX]; exact hi)
  have inR : ∀ i, (sc_w a cA sc_csX ++ sc_w aM cA sc_csM)[227 + i]? = (sc_w aM cA sc_csM)[i]? := fun i => by
    rw [List.getElem?_append_right (by rw [lX]; omega), lX, Nat.add_sub_cancel_left]
  have mX : ((List.range sw_gX.1).map sc_pX).map (fun i => (sc_w a cA sc_csX ++ sc_w aM cA sc_csM)[i]?) = (sw_w (l, D, fun i => a (sc_pX i), cA) sw_gX ps_X).map some := by
    rw [← sX]
    apply List.map_congr_left
    intro i hi
    obtain ⟨j, hj, e1⟩ := List.mem_map.mp hi
    have hj2 : j < 227 := List.mem_range.mp hj
    rw [← e1]
    exact inL _ (ws_bX.2 j hj2)
  have mM : ((List.range 75).map (fun i => 227 + i)).map (fun i => (sc_w a cA sc_csX ++ sc_w aM cA sc_csM)[i]?) = (sw_w (l, D, aM, cA) sw_gM ps_M).map some := by
    have e1 : (sw_w (l, D, aM, cA) sw_gM ps_M).map some = ((List.range 75).map id).map (fun i => (sc_w aM cA sc_csM)[i]?) := sM.symm
    rw [e1, List.map_map, List.map_map]
    apply List.map_congr_left
    intro i hi
    exact inR i
  have hPX := hP4.sub _ (ws_fm mX)
  have hPM := hP4.sub _ (ws_fm mM)
  have hDX := hD4.sub _ ws_ndX.1 mX
  have hDM := hD4.sub _ (show va_nd ((List.range 75).map (fun i => 227 + i)) = true by decide +kernel) mM
  have hdis : ∀ i j : Nat, i < 227 → j < 75 → a (sc_pX i) ≠ aM j := fun i j hi hj he => by
    have hp := ws_bX.2 i hi
    have x1 : (sc_w a cA sc_csX)[sc_pX i]? = some ((sc_w a cA sc_csX)[sc_pX i]'(by rw [lX]; exact hp)) := List.getElem?_eq_getElem _
    have x2 : (sc_w aM cA sc_csM)[j]? = some ((sc_w aM cA sc_csM)[j]'(by rw [lM]; exact hj)) := List.getElem?_eq_getElem _
    have f1 : ((sc_w a cA sc_csX)[sc_pX i]'(by rw [lX]; exact hp)).1 = a (sc_pX i) := by simp [sc_w]
    have f2 : ((sc_w aM cA sc_csM)[j]'(by rw [lM]; exact hj)).1 = aM j := by simp [sc_w]
    have := hD4.1 (sc_pX i) (227 + j) _ _ ((inL _ hp).trans x1) ((inR j).trans x2) (by rw [f1, f2]; exact he)
    omega
  have C : lx_C l p s m meth c #[Value.ref b] D cA (fun i => a (sc_pX i)) aM := ⟨hx, hb, hml, hown, htT, hK l _, hdis, hZ⟩
  have hlv : lv_has ls 4 (ly_lv b (fun i => a (sc_pX i)) aM 0) := by
    have := lv_sub hl [3, 2, 1, 0] rfl
    have e0 : a (sc_pX 0) = q0 := by rw [ws_bX.1]; exact ha
    unfold ly_lv
    rw [show (fun i => a (sc_pX i)) 0 = q0 from e0, haM]
    exact this
  refine ll_loop C hX hbl hL (R := RR) ?_ ws_all ?_ 513 0 ps_X ps_M ps_RR (by omega) (by omega) H4 locs4 ls hPX hDX hPM hDM hS4 hlv
  · rw [szX.1, szM.1]
    omega
  · intro i σx σm _ H locs ls h1 h2 h3 h4 hSe hle
    refine lv_iconst (n := 1) (v := 1) hx hb (by decide +kernel) (by decide) ?_
    refine va_forget (fun q hq => hSe.2.2 q hq) ?_
    refine W.widen (k := 600000) (n := 7302250) (by rw [szX.1, szM.1]; decide) (by omega) ?_
    exact lw_ret hx hb hr hlocks (by decide +kernel)

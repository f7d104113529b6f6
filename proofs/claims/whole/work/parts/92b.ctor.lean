/-! The law makes an object by its constructor. -/
theorem ws_nd1 : va_nd (List.range 0) = true := rfl
theorem ws_cs1 {a : Nat → Nat} {cA : Nat → ClassId} {cc : Nat} : sc_w a cA [.inl (cc, sc_df cc)] = [(a 0, .inr (cc, sc_df cc))] := by
  show [(a 0, (Sum.inr (cc, (sc_df cc).map (sw_cv a)) : va_E))] = _
  rw [sc_df_cv]
theorem ws_ctor {p : Program} {l : Launch} {e : Env} {s : State} {m : MethodId} {args : Array Value} {below : List Frame} {meth : Method} {c : Code} {D : va_G} {cA : Nat → ClassId} {Q : State → Prop} {N : sw_M} {d cc idx pc cells slots q : Nat} {csF : List sc_C} {ws : va_W} {H : Heap} {locs : List Loc} {ls : Array Slot} {lv : List (Nat × Value)}
    (hx : p.tables.exec = Jvm.exec) (hb : c.code = code) (hml : c.maxLocals = 4) (hown : s.vm.findClass "StrayWoolLaw" = some m.cls) (hts : ∀ w ∈ sw_T, w.before args s = true) (hK : ∀ (l : Launch) (a : Nat → Nat), va_K D vwCl (sw_tys (l, D, a, cA)) s) (hN : sc_N s)
    (hd : decode code pc = .ok (.invokespecial idx, 3)) (hlk : Cond.methodLink "StrayWoolLaw" idx N.1 ∈ sw_T) (hok : sw_ok N ∧ Cond.instanceMethod N.1 ∈ sw_T) (hnm : sw_nm N.2.2.2.2 = N.1.cls) (hpl : plainName N.1.cls = true) (hnl : 1 ≤ N.2.2.1) (hret : N.2.2.2.1 = none) (hin : N.1.name = "<init>") (hpd : (parseMethodDescriptor N.1.desc).map (fun d => d.parameters.length) = some 0)
    (hSo : sc_So d N 0 [(0, .ref 0)] [] [.inl (cc, sc_df cc)] csF) (hd2 : d ≤ 200) (hnd : va_nd (List.range ws.length) = true)
    (hP : va_P D vwCl (ws ++ [(q, .inr (cc, sc_df cc))]) H) (hD : va_D (fun q => s.heap.size ≤ q) (ws ++ [(q, .inr (cc, sc_df cc))])) (hS : va_S (fun q => s.heap.size ≤ q) s.heap H locs) (hl : lv_has ls 4 lv)
    (hc : cells + (csF.length - 1) ≤ 600000 ∧ slots + (sc_sz csF - sc_sz [.inl (cc, sc_df cc)]) ≤ 7302250)
    (k : ∀ (H1 : Heap) (locs1 : List Loc) (a : Nat → Nat), a 0 = q → va_P D vwCl (ws ++ sc_w a cA csF) H1 → va_D (fun q => s.heap.size ≤ q) (ws ++ sc_w a cA csF) → va_S (fun q => s.heap.size ≤ q) s.heap H1 locs1 → W p l e room_1 s m args below meth c H1 locs1 (cells + (csF.length - 1)) (slots + (sc_sz csF - sc_sz [.inl (cc, sc_df cc)])) Q (F0 m (pc + 3) ls [.ref q])) :
    W p l e room_1 s m args below meth c H locs cells slots Q (F0 m pc ls [.ref q, .ref q]) := by
  have hwc : sc_w (fun _ => q) cA [.inl (cc, sc_df cc)] = [(q, .inr (cc, sc_df cc))] := ws_cs1
  have hM : sc_K (l, D, id, cA) N d [.ref 0] [.inl (cc, sc_df cc)] csF := sc_K.of hpl hnm (by show 1 ≤ N.2.2.1; exact hnl) (hSo.2 (l, D, id, cA) _ _ 1 0 0 (by rw [Nat.zero_add]) (by rw [Nat.zero_add]))
  have hM' := hM (fun _ => q) H.size
  have hA : ∀ q : Nat, s.heap.size ≤ q → (fun q : Nat => s.heap.size ≤ q) q := fun _ h => h
  have hC : [ws.length].map (fun i => (ws ++ [(q, (Sum.inr (cc, sc_df cc) : va_E))])[i]?) = [(q, (Sum.inr (cc, sc_df cc) : va_E))].map some := by simp
  have hR : (List.range ws.length).map (fun i => (ws ++ [(q, (Sum.inr (cc, sc_df cc) : va_E))])[i]?) = ws.map some := by
    apply List.ext_getElem?
    intro i
    by_cases h : i < ws.length
    · rw [List.getElem?_map, List.getElem?_range h, Option.map_some, List.getElem?_append_left h, List.getElem?_map, List.getElem?_eq_getElem h]
      rfl
    · rw [List.getElem?_eq_none (by simp; omega), List.getElem?_eq_none (by simp; omega)]
  have hPc : va_P D vwCl [(q, .inr (cc, sc_df cc))] H := hP.sub [ws.length] (by simp)
  have hDc : va_D (fun q => s.heap.size ≤ q) [(q, .inr (cc, sc_df cc))] := hD.sub [ws.length] rfl hC
  have hF : ∀ x, va_A [(q, (Sum.inr (cc, sc_df cc) : va_E))] H.size x → (fun q : Nat => s.heap.size ≤ q) x := va_free hD hS hA [ws.length] hC
  have hrm : (sc_rm d (csF.length - [(Sum.inl (cc, sc_df cc) : sc_C)].length) (sc_sz csF - sc_sz [.inl (cc, sc_df cc)])).frames + 1 ≤ room_1.frames ∧ 8 + (N.2.2.1 + 11) + (sc_rm d (csF.length - [(Sum.inl (cc, sc_df cc) : sc_C)].length) (sc_sz csF - sc_sz [.inl (cc, sc_df cc)])).locals ≤ room_1.locals := by
    have h40 := hok.1.2.2.1
    refine ⟨?_, ?_⟩
    · show d + 1 ≤ 2048
      omega
    · show 8 + (N.2.2.1 + 11) + 70 * d ≤ 84000
      omega
  have hpre : ∀ U : State, U.heap = H → s.WarmedH U.vm → va_Pc (([.ref 0] : List Value).map (sw_cv (fun _ => q))) (fun U => U.heap.size = H.size ∧ va_P D vwCl (sc_w (fun _ => q) cA [.inl (cc, sc_df cc)]) U.heap ∧ va_K D vwCl (sw_tys (l, D, id, cA)) U ∧ va_D (fun _ => True) (sc_w (fun _ => q) cA [.inl (cc, sc_df cc)]) ∧ sc_N U) (Value.ref q :: ([] : List Value)).toArray U := fun U hU hW => ⟨rfl, by rw [hU], by rw [hU, hwc]; exact hPc, va_K.moved hW.alike (hK l id), by rw [hwc]; exact hDc.weaken (fun _ _ _ _ => trivial), hN.warm hW⟩
  have hrun := va_runI (As := []) (rest := [.ref q]) (b := q) (g := F0 m pc ls [.ref q, .ref q]) (below := below) (locs := locs) (cells := cells) (slots := slots) (e := e) (meth := meth) (R := room_1) (maxL := N.2.2.1) (bytes := N.2.1) ⟨hx, hb, hml, hown, hts⟩ hM' (cwI 0 hts (sw_wsT hok.1) (by rw [← hret]; rfl) rfl rfl (hts _ hok.1.2.1) (hts _ hlk) (hts _ hok.2) hin ⟨hok.1.2.2.2.1, hok.1.2.2.2.2, hpd⟩ hrm) ⟨sc_blind, hpre⟩ rfl rfl hl.1 rfl (lv_room (Nat.le_of_ble_eq_true rfl)) hd ⟨hc.1, hc.2⟩
  intro T hT X
  obtain ⟨v, st₀, t, T', Lc, g0, X', hLc, e1, e2, ⟨⟨hv, a, hag, hP1, hK1, hD1⟩, hz, hk⟩, stp⟩ := hrun T hT X
  cases hv
  rw [g0] at hz hk
  rw [hwc] at hk hD1 hLc
  have hS1 : va_S (fun q => s.heap.size ≤ q) s.heap T'.heap (locs ++ Lc) := ⟨Nat.le_trans hS.1 (by rw [e1]; exact hz), fun x q1 q2 => by rw [e1, hk x (Nat.lt_of_lt_of_le q1 hS.1) (fun z => q2 (hF x z))]; exact hS.2.1 x q1 q2, fun x hx => by
      rcases List.mem_append.mp hx with h | h
      · exact hS.2.2 x h
      · exact hF _ (hLc x h)⟩
  obtain ⟨hPj, hDj⟩ := va_join (wr := ws) (w1 := sc_w a cA csF) hP hD [ws.length] (List.range ws.length) hC hR hnd (fun i hi h => by simp at hi h; omega) hk hF hP1 hD1
  obtain ⟨t2, a1, b1⟩ := k T'.heap (locs ++ Lc) a (hag 0 (by show 0 < 1; omega)) (by rw [e1]; exact hPj) hDj hS1 T' rfl X'
  exact ⟨t2, stp t2 a1, b1⟩

/-! The cases of the law. -/
set_option maxHeartbeats 4000000 in
theorem lz_case0 {p : Program} {l : Launch} {e : Env} {s : State} {m : MethodId} {below : List Frame} {meth : Method} {c : Code} {b L : Nat} {xs : Nat → Int32} {D : va_G} {cA : Nat → ClassId} {aX aM : Nat → Nat} {cells slots : Nat} {Q : State → Prop} {args : Array Value} {i : Nat} {σx σm x2 m2 : sw_St} {v : Int32} (C : lx_C l p s m meth c args D cA aX aM) (hX : va_X b L xs s s.heap) (hbl : b < s.heap.size) (hL : L ≤ 3072) (hi : i + 6 ≤ L) (hcs : cells ≤ 600000 ∧ slots ≤ 7302250) (fx : F_X10_feed σx (xs (i + 1)) (xs (i + 2)) (xs (i + 3)) (xs (i + 4)) (xs (i + 5)) = some (v, x2)) (fm : F_X11_feed σm (xs (i + 1)) (xs (i + 2)) (xs (i + 3)) (xs (i + 4)) (xs (i + 5)) = some (v, m2)) (k : lx_W p l e s m args below meth c D cA aX aM cells slots Q 1266 (ly_lv b aX aM i) [] x2 m2) : lx_W p l e s m args below meth c D cA aX aM cells slots Q 200 (ly_lv b aX aM i) [] σx σm := by
  refine ly_x C (by decide +kernel) ?_
  refine ly_arg (j := 1) (jj := 1) C hX hbl hL hi (by decide) (by decide) (by decide +kernel) (by decide +kernel) (by decide +kernel) (by decide +kernel) (by decide +kernel) ?_
  refine ly_arg (j := 2) (jj := 2) C hX hbl hL hi (by decide) (by decide) (by decide +kernel) (by decide +kernel) (by decide +kernel) (by decide +kernel) (by decide +kernel) ?_
  refine ly_arg (j := 3) (jj := 3) C hX hbl hL hi (by decide) (by decide) (by decide +kernel) (by decide +kernel) (by decide +kernel) (by decide +kernel) (by decide +kernel) ?_
  refine ly_arg (j := 4) (jj := 4) C hX hbl hL hi (by decide) (by decide) (by decide +kernel) (by decide +kernel) (by decide +kernel) (by decide +kernel) (by decide +kernel) ?_
  refine ly_arg (j := 5) (jj := 5) C hX hbl hL hi (by decide) (by decide) (by decide +kernel) (by decide +kernel) (by decide +kernel) (by decide +kernel) (by decide +kernel) ?_
  refine lx_callX (N := m_X10_feed) (d := 1) (As := [.int (xs (i + 1)), .int (xs (i + 2)), .int (xs (i + 3)), .int (xs (i + 4)), .int (xs (i + 5))]) (rest := []) (n := 5) C (by decide +kernel) lz_13 mk_X10_feed rfl rfl (by decide +kernel) rfl (fun _ => rfl) (by decide) (by decide) hcs (FC_X10_feed (Nat.le_refl _) fx) (fun r s9 h9 => ?_)
  obtain ⟨v9, rfl, h91, h93⟩ := h9
  have h92 : v9 = v := h91
  have h94 : s9 = x2 := h93
  rw [h92, h94]
  show lx_W p l e s m args below meth c D cA aX aM cells slots Q 229 (ly_lv b aX aM i) [.int v] x2 σm
  refine ly_m C (by decide +kernel) ?_
  refine ly_arg (j := 1) (jj := 1) C hX hbl hL hi (by decide) (by decide) (by decide +kernel) (by decide +kernel) (by decide +kernel) (by decide +kernel) (by decide +kernel) ?_
  refine ly_arg (j := 2) (jj := 2) C hX hbl hL hi (by decide) (by decide) (by decide +kernel) (by decide +kernel) (by decide +kernel) (by decide +kernel) (by decide +kernel) ?_
  refine ly_arg (j := 3) (jj := 3) C hX hbl hL hi (by decide) (by decide) (by decide +kernel) (by decide +kernel) (by decide +kernel) (by decide +kernel) (by decide +kernel) ?_
  refine ly_arg (j := 4) (jj := 4) C hX hbl hL hi (by decide) (by decide) (by decide +kernel) (by decide +kernel) (by decide +kernel) (by decide +kernel) (by decide +kernel) ?_
  refine ly_arg (j := 5) (jj := 5) C hX hbl hL hi (by decide) (by decide) (by decide +kernel) (by decide +kernel) (by decide +kernel) (by decide +kernel) (by decide +kernel) ?_
  refine lx_callM (N := m_X11_feed) (d := 0) (As := [.int (xs (i + 1)), .int (xs (i + 2)), .int (xs (i + 3)), .int (xs (i + 4)), .int (xs (i + 5))]) (rest := [.int v]) (n := 5) C (by decide +kernel) lz_17 mk_X11_feed rfl rfl (by decide +kernel) rfl (fun _ => rfl) (Nat.le_of_ble_eq_true rfl) (by decide) hcs (FC_X11_feed (Nat.le_refl _) fm) (fun r s9 h9 => ?_)
  obtain ⟨v9, rfl, h91, h93⟩ := h9
  have h92 : v9 = v := h91
  have h94 : s9 = m2 := h93
  rw [h92, h94]
  show lx_W p l e s m args below meth c D cA aX aM cells slots Q 258 (ly_lv b aX aM i) [.int v, .int v] x2 m2
  refine ly_eqI (off := 1008) (tgt := 1266) C (by decide +kernel) (by decide) ?_
  exact k
set_option maxHeartbeats 4000000 in
theorem lz_case1 {p : Program} {l : Launch} {e : Env} {s : State} {m : MethodId} {below : List Frame} {meth : Method} {c : Code} {b L : Nat} {xs : Nat → Int32} {D : va_G} {cA : Nat → ClassId} {aX aM : Nat → Nat} {cells slots : Nat} {Q : State → Prop} {args : Array Value} {i : Nat} {σx σm x2 m2 : sw_St} {v : Int32} (C : lx_C l p s m meth c args D cA aX aM) (hX : va_X b L xs s s.heap) (hbl : b < s.heap.size) (hL : L ≤ 3072) (hi : i + 6 ≤ L) (hcs : cells ≤ 600000 ∧ slots ≤ 7302250) (fx : F_X10_end σx (xs (i + 1)) = some (v, x2)) (fm : F_X11_end σm (xs (i + 1)) = some (v, m2)) (k : lx_W p l e s m args below meth c D cA aX aM cells slots Q 1266 (ly_lv b aX aM i) [] x2 m2) : lx_W p l e s m args below meth c D cA aX aM cells slots Q 263 (ly_lv b aX aM i) [] σx σm := by
  refine ly_x C (by decide +kernel) ?_
  refine ly_arg (j := 1) (jj := 1) C hX hbl hL hi (by decide) (by decide) (by decide +kernel) (by decide +kernel) (by decide +kernel) (by decide +kernel) (by decide +kernel) ?_
  refine lx_callX (N := m_X10_end) (d := 1) (As := [.int (xs (i + 1))]) (rest := []) (n := 1) C (by decide +kernel) lz_18 mk_X10_end rfl rfl (by decide +kernel) rfl (fun _ => rfl) (by decide) (by decide) hcs (FC_X10_end (Nat.le_refl _) fx) (fun r s9 h9 => ?_)
  obtain ⟨v9, rfl, h91, h93⟩ := h9
  have h92 : v9 = v := h91
  have h94 : s9 = x2 := h93
  rw [h92, h94]
  show lx_W p l e s m args below meth c D cA aX aM cells slots Q 272 (ly_lv b aX aM i) [.int v] x2 σm
  refine ly_m C (by decide +kernel) ?_
  refine ly_arg (j := 1) (jj := 1) C hX hbl hL hi (by decide) (by decide) (by decide +kernel) (by decide +kernel) (by decide +kernel) (by decide +kernel) (by decide +kernel) ?_
  refine lx_callM (N := m_X11_end) (d := 0) (As := [.int (xs (i + 1))]) (rest := [.int v]) (n := 1) C (by decide +kernel) lz_22 mk_X11_end rfl rfl (by decide +kernel) rfl (fun _ => rfl) (Nat.le_of_ble_eq_true rfl) (by decide) hcs (FC_X11_end (Nat.le_refl _) fm) (fun r s9 h9 => ?_)
  obtain ⟨v9, rfl, h91, h93⟩ := h9
  have h92 : v9 = v := h91
  have h94 : s9 = m2 := h93
  rw [h92, h94]
  show lx_W p l e s m args below meth c D cA aX aM cells slots Q 281 (ly_lv b aX aM i) [.int v, .int v] x2 m2
  refine ly_eqI (off := 985) (tgt := 1266) C (by decide +kernel) (by decide) ?_
  exact k
set_option maxHeartbeats 4000000 in
theorem lz_case2 {p : Program} {l : Launch} {e : Env} {s : State} {m : MethodId} {below : List Frame} {meth : Method} {c : Code} {b L : Nat} {xs : Nat → Int32} {D : va_G} {cA : Nat → ClassId} {aX aM : Nat → Nat} {cells slots : Nat} {Q : State → Prop} {args : Array Value} {i : Nat} {σx σm x2 m2 : sw_St} {v : Int32} (C : lx_C l p s m meth c args D cA aX aM) (hX : va_X b L xs s s.heap) (hbl : b < s.heap.size) (hL : L ≤ 3072) (hi : i + 6 ≤ L) (hcs : cells ≤ 600000 ∧ slots ≤ 7302250) (fx : F_X10_upland σx  = some (v, x2)) (fm : F_X11_upland σm  = some (v, m2)) (k : lx_W p l e s m args below meth c D cA aX aM cells slots Q 1266 (ly_lv b aX aM i) [] x2 m2) : lx_W p l e s m args below meth c D cA aX aM cells slots Q 286 (ly_lv b aX aM i) [] σx σm := by
  refine ly_x C (by decide +kernel) ?_
  refine lx_callX (N := m_X10_upland) (d := 70) (As := []) (rest := []) (n := 0) C (by decide +kernel) lz_23 mk_X10_upland rfl rfl (by decide +kernel) rfl (fun _ => rfl) (by decide) (by decide) hcs (FC_X10_upland (Nat.le_refl _) fx) (fun r s9 h9 => ?_)
  obtain ⟨v9, rfl, h91, h93⟩ := h9
  have h92 : v9 = v := h91
  have h94 : s9 = x2 := h93
  rw [h92, h94]
  show lx_W p l e s m args below meth c D cA aX aM cells slots Q 290 (ly_lv b aX aM i) [.int v] x2 σm
  refine ly_m C (by decide +kernel) ?_
  refine lx_callM (N := m_X11_upland) (d := 11) (As := []) (rest := [.int v]) (n := 0) C (by decide +kernel) lz_27 mk_X11_upland rfl rfl (by decide +kernel) rfl (fun _ => rfl) (Nat.le_of_ble_eq_true rfl) (by decide) hcs (FC_X11_upland (Nat.le_refl _) fm) (fun r s9 h9 => ?_)
  obtain ⟨v9, rfl, h91, h93⟩ := h9
  have h92 : v9 = v := h91
  have h94 : s9 = m2 := h93
  rw [h92, h94]
  show lx_W p l e s m args below meth c D cA aX aM cells slots Q 294 (ly_lv b aX aM i) [.int v, .int v] x2 m2
  refine ly_eqI (off := 972) (tgt := 1266) C (by decide +kernel) (by decide) ?_
  exact k
set_option maxHeartbeats 4000000 in
theorem lz_case3 {p : Program} {l : Launch} {e : Env} {s : State} {m : MethodId} {below : List Frame} {meth : Method} {c : Code} {b L : Nat} {xs : Nat → Int32} {D : va_G} {cA : Nat → ClassId} {aX aM : Nat → Nat} {cells slots : Nat} {Q : State → Prop} {args : Array Value} {i : Nat} {σx σm x2 m2 : sw_St} {v : Int32} (C : lx_C l p s m meth c args D cA aX aM) (hX : va_X b L xs s s.heap) (hbl : b < s.heap.size) (hL : L ≤ 3072) (hi : i + 6 ≤ L) (hcs : cells ≤ 600000 ∧ slots ≤ 7302250) (fx : F_X10_fault σx (xs (i + 1)) = some (v, x2)) (fm : F_X11_fault σm (xs (i + 1)) = some (v, m2)) (k : lx_W p l e s m args below meth c D cA aX aM cells slots Q 1266 (ly_lv b aX aM i) [] x2 m2) : lx_W p l e s m args below meth c D cA aX aM cells slots Q 299 (ly_lv b aX aM i) [] σx σm := by
  refine ly_x C (by decide +kernel) ?_
  refine ly_arg (j := 1) (jj := 1) C hX hbl hL hi (by decide) (by decide) (by decide +kernel) (by decide +kernel) (by decide +kernel) (by decide +kernel) (by decide +kernel) ?_
  refine lx_callX (N := m_X10_fault) (d := 0) (As := [.int (xs (i + 1))]) (rest := []) (n := 1) C (by decide +kernel) lz_28 mk_X10_fault rfl rfl (by decide +kernel) rfl (fun _ => rfl) (by decide) (by decide) hcs (FC_X10_fault (Nat.le_refl _) fx) (fun r s9 h9 => ?_)
  obtain ⟨v9, rfl, h91, h93⟩ := h9
  have h92 : v9 = v := h91
  have h94 : s9 = x2 := h93
  rw [h92, h94]
  show lx_W p l e s m args below meth c D cA aX aM cells slots Q 308 (ly_lv b aX aM i) [.int v] x2 σm
  refine ly_m C (by decide +kernel) ?_
  refine ly_arg (j := 1) (jj := 1) C hX hbl hL hi (by decide) (by decide) (by decide +kernel) (by decide +kernel) (by decide +kernel) (by decide +kernel) (by decide +kernel) ?_
  refine lx_callM (N := m_X11_fault) (d := 0) (As := [.int (xs (i + 1))]) (rest := [.int v]) (n := 1) C (by decide +kernel) lz_32 mk_X11_fault rfl rfl (by decide +kernel) rfl (fun _ => rfl) (Nat.le_of_ble_eq_true rfl) (by decide) hcs (FC_X11_fault (Nat.le_refl _) fm) (fun r s9 h9 => ?_)
  obtain ⟨v9, rfl, h91, h93⟩ := h9
  have h92 : v9 = v := h91
  have h94 : s9 = m2 := h93
  rw [h92, h94]
  show lx_W p l e s m args below meth c D cA aX aM cells slots Q 317 (ly_lv b aX aM i) [.int v, .int v] x2 m2
  refine ly_eqI (off := 949) (tgt := 1266) C (by decide +kernel) (by decide) ?_
  exact k
set_option maxHeartbeats 4000000 in
theorem lz_case4 {p : Program} {l : Launch} {e : Env} {s : State} {m : MethodId} {below : List Frame} {meth : Method} {c : Code} {b L : Nat} {xs : Nat → Int32} {D : va_G} {cA : Nat → ClassId} {aX aM : Nat → Nat} {cells slots : Nat} {Q : State → Prop} {args : Array Value} {i : Nat} {σx σm x2 m2 : sw_St} {v : Int32} (C : lx_C l p s m meth c args D cA aX aM) (hX : va_X b L xs s s.heap) (hbl : b < s.heap.size) (hL : L ≤ 3072) (hi : i + 6 ≤ L) (hcs : cells ≤ 600000 ∧ slots ≤ 7302250) (fx : F_X10_has σx (xs (i + 1)) = some (v, x2)) (fm : F_X11_has σm (xs (i + 1)) = some (v, m2)) (k : lx_W p l e s m args below meth c D cA aX aM cells slots Q 1266 (ly_lv b aX aM i) [] x2 m2) : lx_W p l e s m args below meth c D cA aX aM cells slots Q 322 (ly_lv b aX aM i) [] σx σm := by
  refine ly_x C (by decide +kernel) ?_
  refine ly_arg (j := 1) (jj := 1) C hX hbl hL hi (by decide) (by decide) (by decide +kernel) (by decide +kernel) (by decide +kernel) (by decide +kernel) (by decide +kernel) ?_
  refine lx_callX (N := m_X10_has) (d := 1) (As := [.int (xs (i + 1))]) (rest := []) (n := 1) C (by decide +kernel) lz_33 mk_X10_has rfl rfl (by decide +kernel) rfl (fun _ => rfl) (by decide) (by decide) hcs (FC_X10_has (Nat.le_refl _) fx) (fun r s9 h9 => ?_)
  obtain ⟨v9, rfl, h91, h93⟩ := h9
  have h92 : v9 = v := h91
  have h94 : s9 = x2 := h93
  rw [h92, h94]
  show lx_W p l e s m args below meth c D cA aX aM cells slots Q 331 (ly_lv b aX aM i) [.int v] x2 σm
  refine ly_m C (by decide +kernel) ?_
  refine ly_arg (j := 1) (jj := 1) C hX hbl hL hi (by decide) (by decide) (by decide +kernel) (by decide +kernel) (by decide +kernel) (by decide +kernel) (by decide +kernel) ?_
  refine lx_callM (N := m_X11_has) (d := 2) (As := [.int (xs (i + 1))]) (rest := [.int v]) (n := 1) C (by decide +kernel) lz_36 mk_X11_has rfl rfl (by decide +kernel) rfl (fun _ => rfl) (Nat.le_of_ble_eq_true rfl) (by decide) hcs (FC_X11_has (Nat.le_refl _) fm) (fun r s9 h9 => ?_)
  obtain ⟨v9, rfl, h91, h93⟩ := h9
  have h92 : v9 = v := h91
  have h94 : s9 = m2 := h93
  rw [h92, h94]
  show lx_W p l e s m args below meth c D cA aX aM cells slots Q 340 (ly_lv b aX aM i) [.int v, .int v] x2 m2
  refine ly_eqI (off := 926) (tgt := 1266) C (by decide +kernel) (by decide) ?_
  exact k
set_option maxHeartbeats 4000000 in
theorem lz_case5 {p : Program} {l : Launch} {e : Env} {s : State} {m : MethodId} {below : List Frame} {meth : Method} {c : Code} {b L : Nat} {xs : Nat → Int32} {D : va_G} {cA : Nat → ClassId} {aX aM : Nat → Nat} {cells slots : Nat} {Q : State → Prop} {args : Array Value} {i : Nat} {σx σm x2 m2 : sw_St} {v : Int32} (C : lx_C l p s m meth c args D cA aX aM) (hX : va_X b L xs s s.heap) (hbl : b < s.heap.size) (hL : L ≤ 3072) (hi : i + 6 ≤ L) (hcs : cells ≤ 600000 ∧ slots ≤ 7302250) (fx : F_X10_letter σx (xs (i + 1)) (xs (i + 2)) (xs (i + 3)) = some (v, x2)) (fm : F_X11_letter σm (xs (i + 1)) (xs (i + 2)) (xs (i + 3)) = some (v, m2)) (k : lx_W p l e s m args below meth c D cA aX aM cells slots Q 1266 (ly_lv b aX aM i) [] x2 m2) : lx_W p l e s m args below meth c D cA aX aM cells slots Q 345 (ly_lv b aX aM i) [] σx σm := by
  refine ly_x C (by decide +kernel) ?_
  refine ly_arg (j := 1) (jj := 1) C hX hbl hL hi (by decide) (by decide) (by decide +kernel) (by decide +kernel) (by decide +kernel) (by decide +kernel) (by decide +kernel) ?_
  refine ly_arg (j := 2) (jj := 2) C hX hbl hL hi (by decide) (by decide) (by decide +kernel) (by decide +kernel) (by decide +kernel) (by decide +kernel) (by decide +kernel) ?_
  refine ly_arg (j := 3) (jj := 3) C hX hbl hL hi (by decide) (by decide) (by decide +kernel) (by decide +kernel) (by decide +kernel) (by decide +kernel) (by decide +kernel) ?_
  refine lx_callX (N := m_X10_letter) (d := 1) (As := [.int (xs (i + 1)), .int (xs (i + 2)), .int (xs (i + 3))]) (rest := []) (n := 3) C (by decide +kernel) lz_37 mk_X10_letter rfl rfl (by decide +kernel) rfl (fun _ => rfl) (by decide) (by decide) hcs (FC_X10_letter (Nat.le_refl _) fx) (fun r s9 h9 => ?_)
  obtain ⟨v9, rfl, h91, h93⟩ := h9
  have h92 : v9 = v := h91
  have h94 : s9 = x2 := h93
  rw [h92, h94]
  show lx_W p l e s m args below meth c D cA aX aM cells slots Q 364 (ly_lv b aX aM i) [.int v] x2 σm
  refine ly_m C (by decide +kernel) ?_
  refine ly_arg (j := 1) (jj := 1) C hX hbl hL hi (by decide) (by decide) (by decide +kernel) (by decide +kernel) (by decide +kernel) (by decide +kernel) (by decide +kernel) ?_
  refine ly_arg (j := 2) (jj := 2) C hX hbl hL hi (by decide) (by decide) (by decide +kernel) (by decide +kernel) (by decide +kernel) (by decide +kernel) (by decide +kernel) ?_
  refine ly_arg (j := 3) (jj := 3) C hX hbl hL hi (by decide) (by decide) (by decide +kernel) (by decide +kernel) (by decide +kernel) (by decide +kernel) (by decide +kernel) ?_
  refine lx_callM (N := m_X11_letter) (d := 1) (As := [.int (xs (i + 1)), .int (xs (i + 2)), .int (xs (i + 3))]) (rest := [.int v]) (n := 3) C (by decide +kernel) lz_41 mk_X11_letter rfl rfl (by decide +kernel) rfl (fun _ => rfl) (Nat.le_of_ble_eq_true rfl) (by decide) hcs (FC_X11_letter (Nat.le_refl _) fm) (fun r s9 h9 => ?_)
  obtain ⟨v9, rfl, h91, h93⟩ := h9
  have h92 : v9 = v := h91
  have h94 : s9 = m2 := h93
  rw [h92, h94]
  show lx_W p l e s m args below meth c D cA aX aM cells slots Q 383 (ly_lv b aX aM i) [.int v, .int v] x2 m2
  refine ly_eqI (off := 883) (tgt := 1266) C (by decide +kernel) (by decide) ?_
  exact k
set_option maxHeartbeats 4000000 in
theorem lz_case6 {p : Program} {l : Launch} {e : Env} {s : State} {m : MethodId} {below : List Frame} {meth : Method} {c : Code} {b L : Nat} {xs : Nat → Int32} {D : va_G} {cA : Nat → ClassId} {aX aM : Nat → Nat} {cells slots : Nat} {Q : State → Prop} {args : Array Value} {i : Nat} {σx σm x2 m2 : sw_St} {v : Int32} (C : lx_C l p s m meth c args D cA aX aM) (hX : va_X b L xs s s.heap) (hbl : b < s.heap.size) (hL : L ≤ 3072) (hi : i + 6 ≤ L) (hcs : cells ≤ 600000 ∧ slots ≤ 7302250) (fx : F_X10_lure σx (xs (i + 1)) = some (v, x2)) (fm : F_X11_lure σm (xs (i + 1)) = some (v, m2)) (k : lx_W p l e s m args below meth c D cA aX aM cells slots Q 1266 (ly_lv b aX aM i) [] x2 m2) : lx_W p l e s m args below meth c D cA aX aM cells slots Q 388 (ly_lv b aX aM i) [] σx σm := by
  refine ly_x C (by decide +kernel) ?_
  refine ly_arg (j := 1) (jj := 1) C hX hbl hL hi (by decide) (by decide) (by decide +kernel) (by decide +kernel) (by decide +kernel) (by decide +kernel) (by decide +kernel) ?_
  refine lx_callX (N := m_X10_lure) (d := 1) (As := [.int (xs (i + 1))]) (rest := []) (n := 1) C (by decide +kernel) lz_42 mk_X10_lure rfl rfl (by decide +kernel) rfl (fun _ => rfl) (by decide) (by decide) hcs (FC_X10_lure (Nat.le_refl _) fx) (fun r s9 h9 => ?_)
  obtain ⟨v9, rfl, h91, h93⟩ := h9
  have h92 : v9 = v := h91
  have h94 : s9 = x2 := h93
  rw [h92, h94]
  show lx_W p l e s m args below meth c D cA aX aM cells slots Q 397 (ly_lv b aX aM i) [.int v] x2 σm
  refine ly_m C (by decide +kernel) ?_
  refine ly_arg (j := 1) (jj := 1) C hX hbl hL hi (by decide) (by decide) (by decide +kernel) (by decide +kernel) (by decide +kernel) (by decide +kernel) (by decide +kernel) ?_
  refine lx_callM (N := m_X11_lure) (d := 2) (As := [.int (xs (i + 1))]) (rest := [.int v]) (n := 1) C (by decide +kernel) lz_45 mk_X11_lure rfl rfl (by decide +kernel) rfl (fun _ => rfl) (Nat.le_of_ble_eq_true rfl) (by decide) hcs (FC_X11_lure (Nat.le_refl _) fm) (fun r s9 h9 => ?_)
  obtain ⟨v9, rfl, h91, h93⟩ := h9
  have h92 : v9 = v := h91
  have h94 : s9 = m2 := h93
  rw [h92, h94]
  show lx_W p l e s m args below meth c D cA aX aM cells slots Q 406 (ly_lv b aX aM i) [.int v, .int v] x2 m2
  refine ly_eqI (off := 860) (tgt := 1266) C (by decide +kernel) (by decide) ?_
  exact k
set_option maxHeartbeats 4000000 in
theorem lz_case7 {p : Program} {l : Launch} {e : Env} {s : State} {m : MethodId} {below : List Frame} {meth : Method} {c : Code} {b L : Nat} {xs : Nat → Int32} {D : va_G} {cA : Nat → ClassId} {aX aM : Nat → Nat} {cells slots : Nat} {Q : State → Prop} {args : Array Value} {i : Nat} {σx σm x2 m2 : sw_St} {v : Int32} (C : lx_C l p s m meth c args D cA aX aM) (hX : va_X b L xs s s.heap) (hbl : b < s.heap.size) (hL : L ≤ 3072) (hi : i + 6 ≤ L) (hcs : cells ≤ 600000 ∧ slots ≤ 7302250) (fx : F_X10_gap σx (xs (i + 1)) (xs (i + 2)) = some (v, x2)) (fm : F_X11_gap σm (xs (i + 1)) (xs (i + 2)) = some (v, m2)) (k : lx_W p l e s m args below meth c D cA aX aM cells slots Q 1266 (ly_lv b aX aM i) [] x2 m2) : lx_W p l e s m args below meth c D cA aX aM cells slots Q 411 (ly_lv b aX aM i) [] σx σm := by
  refine ly_x C (by decide +kernel) ?_
  refine ly_arg (j := 1) (jj := 1) C hX hbl hL hi (by decide) (by decide) (by decide +kernel) (by decide +kernel) (by decide +kernel) (by decide +kernel) (by decide +kernel) ?_
  refine ly_arg (j := 2) (jj := 2) C hX hbl hL hi (by decide) (by decide) (by decide +kernel) (by decide +kernel) (by decide +kernel) (by decide +kernel) (by decide +kernel) ?_
  refine lx_callX (N := m_X10_gap) (d := 1) (As := [.int (xs (i + 1)), .int (xs (i + 2))]) (rest := []) (n := 2) C (by decide +kernel) lz_46 mk_X10_gap rfl rfl (by decide +kernel) rfl (fun _ => rfl) (by decide) (by decide) hcs (FC_X10_gap (Nat.le_refl _) fx) (fun r s9 h9 => ?_)
  obtain ⟨v9, rfl, h91, h93⟩ := h9
  have h92 : v9 = v := h91
  have h94 : s9 = x2 := h93
  rw [h92, h94]
  show lx_W p l e s m args below meth c D cA aX aM cells slots Q 425 (ly_lv b aX aM i) [.int v] x2 σm
  refine ly_m C (by decide +kernel) ?_
  refine ly_arg (j := 1) (jj := 1) C hX hbl hL hi (by decide) (by decide) (by decide +kernel) (by decide +kernel) (by decide +kernel) (by decide +kernel) (by decide +kernel) ?_
  refine ly_arg (j := 2) (jj := 2) C hX hbl hL hi (by decide) (by decide) (by decide +kernel) (by decide +kernel) (by decide +kernel) (by decide +kernel) (by decide +kernel) ?_
  refine lx_callM (N := m_X11_gap) (d := 2) (As := [.int (xs (i + 1)), .int (xs (i + 2))]) (rest := [.int v]) (n := 2) C (by decide +kernel) lz_50 mk_X11_gap rfl rfl (by decide +kernel) rfl (fun _ => rfl) (Nat.le_of_ble_eq_true rfl) (by decide) hcs (FC_X11_gap (Nat.le_refl _) fm) (fun r s9 h9 => ?_)
  obtain ⟨v9, rfl, h91, h93⟩ := h9
  have h92 : v9 = v := h91
  have h94 : s9 = m2 := h93
  rw [h92, h94]
  show lx_W p l e s m args below meth c D cA aX aM cells slots Q 439 (ly_lv b aX aM i) [.int v, .int v] x2 m2
  refine ly_eqI (off := 827) (tgt := 1266) C (by decide +kernel) (by decide) ?_
  exact k
set_option maxHeartbeats 4000000 in
theorem lz_case8 {p : Program} {l : Launch} {e : Env} {s : State} {m : MethodId} {below : List Frame} {meth : Method} {c : Code} {b L : Nat} {xs : Nat → Int32} {D : va_G} {cA : Nat → ClassId} {aX aM : Nat → Nat} {cells slots : Nat} {Q : State → Prop} {args : Array Value} {i : Nat} {σx σm x2 m2 : sw_St} {v : Int32} (C : lx_C l p s m meth c args D cA aX aM) (hX : va_X b L xs s s.heap) (hbl : b < s.heap.size) (hL : L ≤ 3072) (hi : i + 6 ≤ L) (hcs : cells ≤ 600000 ∧ slots ≤ 7302250) (fx : F_X10_sheep σx (xs (i + 1)) (xs (i + 2)) = some (v, x2)) (fm : F_X11_sheep σm (xs (i + 1)) (xs (i + 2)) = some (v, m2)) (k : lx_W p l e s m args below meth c D cA aX aM cells slots Q 1266 (ly_lv b aX aM i) [] x2 m2) : lx_W p l e s m args below meth c D cA aX aM cells slots Q 444 (ly_lv b aX aM i) [] σx σm := by
  refine ly_x C (by decide +kernel) ?_
  refine ly_arg (j := 1) (jj := 1) C hX hbl hL hi (by decide) (by decide) (by decide +kernel) (by decide +kernel) (by decide +kernel) (by decide +kernel) (by decide +kernel) ?_
  refine ly_arg (j := 2) (jj := 2) C hX hbl hL hi (by decide) (by decide) (by decide +kernel) (by decide +kernel) (by decide +kernel) (by decide +kernel) (by decide +kernel) ?_
  refine lx_callX (N := m_X10_sheep) (d := 1) (As := [.int (xs (i + 1)), .int (xs (i + 2))]) (rest := []) (n := 2) C (by decide +kernel) lz_51 mk_X10_sheep rfl rfl (by decide +kernel) rfl (fun _ => rfl) (by decide) (by decide) hcs (FC_X10_sheep (Nat.le_refl _) fx) (fun r s9 h9 => ?_)
  obtain ⟨v9, rfl, h91, h93⟩ := h9
  have h92 : v9 = v := h91
  have h94 : s9 = x2 := h93
  rw [h92, h94]
  show lx_W p l e s m args below meth c D cA aX aM cells slots Q 458 (ly_lv b aX aM i) [.int v] x2 σm
  refine ly_m C (by decide +kernel) ?_
  refine ly_arg (j := 1) (jj := 1) C hX hbl hL hi (by decide) (by decide) (by decide +kernel) (by decide +kernel) (by decide +kernel) (by decide +kernel) (by decide +kernel) ?_
  refine ly_arg (j := 2) (jj := 2) C hX hbl hL hi (by decide) (by decide) (by decide +kernel) (by decide +kernel) (by decide +kernel) (by decide +kernel) (by decide +kernel) ?_
  refine lx_callM (N := m_X11_sheep) (d := 2) (As := [.int (xs (i + 1)), .int (xs (i + 2))]) (rest := [.int v]) (n := 2) C (by decide +kernel) lz_54 mk_X11_sheep rfl rfl (by decide +kernel) rfl (fun _ => rfl) (Nat.le_of_ble_eq_true rfl) (by decide) hcs (FC_X11_sheep (Nat.le_refl _) fm) (fun r s9 h9 => ?_)
  obtain ⟨v9, rfl, h91, h93⟩ := h9
  have h92 : v9 = v := h91
  have h94 : s9 = m2 := h93
  rw [h92, h94]
  show lx_W p l e s m args below meth c D cA aX aM cells slots Q 472 (ly_lv b aX aM i) [.int v, .int v] x2 m2
  refine ly_eqI (off := 794) (tgt := 1266) C (by decide +kernel) (by decide) ?_
  exact k
set_option maxHeartbeats 4000000 in
theorem lz_case9 {p : Program} {l : Launch} {e : Env} {s : State} {m : MethodId} {below : List Frame} {meth : Method} {c : Code} {b L : Nat} {xs : Nat → Int32} {D : va_G} {cA : Nat → ClassId} {aX aM : Nat → Nat} {cells slots : Nat} {Q : State → Prop} {args : Array Value} {i : Nat} {σx σm x2 m2 : sw_St} {v : Int32} (C : lx_C l p s m meth c args D cA aX aM) (hX : va_X b L xs s s.heap) (hbl : b < s.heap.size) (hL : L ≤ 3072) (hi : i + 6 ≤ L) (hcs : cells ≤ 600000 ∧ slots ≤ 7302250) (fx : F_X10_seen σx (xs (i + 1)) (xs (i + 2)) = some (v, x2)) (fm : F_X11_seen σm (xs (i + 1)) (xs (i + 2)) = some (v, m2)) (k : lx_W p l e s m args below meth c D cA aX aM cells slots Q 1266 (ly_lv b aX aM i) [] x2 m2) : lx_W p l e s m args below meth c D cA aX aM cells slots Q 477 (ly_lv b aX aM i) [] σx σm := by
  refine ly_x C (by decide +kernel) ?_
  refine ly_arg (j := 1) (jj := 1) C hX hbl hL hi (by decide) (by decide) (by decide +kernel) (by decide +kernel) (by decide +kernel) (by decide +kernel) (by decide +kernel) ?_
  refine ly_arg (j := 2) (jj := 2) C hX hbl hL hi (by decide) (by decide) (by decide +kernel) (by decide +kernel) (by decide +kernel) (by decide +kernel) (by decide +kernel) ?_
  refine lx_callX (N := m_X10_seen) (d := 1) (As := [.int (xs (i + 1)), .int (xs (i + 2))]) (rest := []) (n := 2) C (by decide +kernel) lz_55 mk_X10_seen rfl rfl (by decide +kernel) rfl (fun _ => rfl) (by decide) (by decide) hcs (FC_X10_seen (Nat.le_refl _) fx) (fun r s9 h9 => ?_)
  obtain ⟨v9, rfl, h91, h93⟩ := h9
  have h92 : v9 = v := h91
  have h94 : s9 = x2 := h93
  rw [h92, h94]
  show lx_W p l e s m args below meth c D cA aX aM cells slots Q 491 (ly_lv b aX aM i) [.int v] x2 σm
  refine ly_m C (by decide +kernel) ?_
  refine ly_arg (j := 1) (jj := 1) C hX hbl hL hi (by decide) (by decide) (by decide +kernel) (by decide +kernel) (by decide +kernel) (by decide +kernel) (by decide +kernel) ?_
  refine ly_arg (j := 2) (jj := 2) C hX hbl hL hi (by decide) (by decide) (by decide +kernel) (by decide +kernel) (by decide +kernel) (by decide +kernel) (by decide +kernel) ?_
  refine lx_callM (N := m_X11_seen) (d := 2) (As := [.int (xs (i + 1)), .int (xs (i + 2))]) (rest := [.int v]) (n := 2) C (by decide +kernel) lz_58 mk_X11_seen rfl rfl (by decide +kernel) rfl (fun _ => rfl) (Nat.le_of_ble_eq_true rfl) (by decide) hcs (FC_X11_seen (Nat.le_refl _) fm) (fun r s9 h9 => ?_)
  obtain ⟨v9, rfl, h91, h93⟩ := h9
  have h92 : v9 = v := h91
  have h94 : s9 = m2 := h93
  rw [h92, h94]
  show lx_W p l e s m args below meth c D cA aX aM cells slots Q 505 (ly_lv b aX aM i) [.int v, .int v] x2 m2
  refine ly_eqI (off := 761) (tgt := 1266) C (by decide +kernel) (by decide) ?_
  exact k

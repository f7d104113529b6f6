set_option maxHeartbeats 4000000 in
theorem lz_case20 {p : Program} {l : Launch} {e : Env} {s : State} {m : MethodId} {below : List Frame} {meth : Method} {c : Code} {b L : Nat} {xs : Nat → Int32} {D : va_G} {cA : Nat → ClassId} {aX aM : Nat → Nat} {cells slots : Nat} {Q : State → Prop} {args : Array Value} {i : Nat} {σx σm x2 m2 : sw_St} {v : Int32} (C : lx_C l p s m meth c args D cA aX aM) (hX : va_X b L xs s s.heap) (hbl : b < s.heap.size) (hL : L ≤ 3072) (hi : i + 6 ≤ L) (hcs : cells ≤ 600000 ∧ slots ≤ 7302250) (fx : F_X10_watch σx (xs (i + 1)) = some (v, x2)) (fm : F_X11_watch σm (xs (i + 1)) = some (v, m2)) (k : lx_W p l e s m args below meth c D cA aX aM cells slots Q 1266 (ly_lv b aX aM i) [] x2 m2) : lx_W p l e s m args below meth c D cA aX aM cells slots Q 830 (ly_lv b aX aM i) [] σx σm := by
  refine ly_x C (by decide +kernel) ?_
  refine ly_arg (j := 1) (jj := 1) C hX hbl hL hi (by decide) (by decide) (by decide +kernel) (by decide +kernel) (by decide +kernel) (by decide +kernel) (by decide +kernel) ?_
  refine lx_callX (N := m_X10_watch) (d := 7) (As := [.int (xs (i + 1))]) (rest := []) (n := 1) C (by decide +kernel) lz_99 mk_X10_watch rfl rfl (by decide +kernel) rfl (fun _ => rfl) (by decide) (by decide) hcs (FC_X10_watch (Nat.le_refl _) fx) (fun r s9 h9 => ?_)
  obtain ⟨v9, rfl, h91, h93⟩ := h9
  have h92 : v9 = v := h91
  have h94 : s9 = x2 := h93
  rw [h92, h94]
  show lx_W p l e s m args below meth c D cA aX aM cells slots Q 839 (ly_lv b aX aM i) [.int v] x2 σm
  refine ly_m C (by decide +kernel) ?_
  refine ly_arg (j := 1) (jj := 1) C hX hbl hL hi (by decide) (by decide) (by decide +kernel) (by decide +kernel) (by decide +kernel) (by decide +kernel) (by decide +kernel) ?_
  refine lx_callM (N := m_X11_watch) (d := 8) (As := [.int (xs (i + 1))]) (rest := [.int v]) (n := 1) C (by decide +kernel) lz_102 mk_X11_watch rfl rfl (by decide +kernel) rfl (fun _ => rfl) (Nat.le_of_ble_eq_true rfl) (by decide) hcs (FC_X11_watch (Nat.le_refl _) fm) (fun r s9 h9 => ?_)
  obtain ⟨v9, rfl, h91, h93⟩ := h9
  have h92 : v9 = v := h91
  have h94 : s9 = m2 := h93
  rw [h92, h94]
  show lx_W p l e s m args below meth c D cA aX aM cells slots Q 848 (ly_lv b aX aM i) [.int v, .int v] x2 m2
  refine ly_eqI (off := 418) (tgt := 1266) C (by decide +kernel) (by decide) ?_
  exact k
set_option maxHeartbeats 4000000 in
theorem lz_case21 {p : Program} {l : Launch} {e : Env} {s : State} {m : MethodId} {below : List Frame} {meth : Method} {c : Code} {b L : Nat} {xs : Nat → Int32} {D : va_G} {cA : Nat → ClassId} {aX aM : Nat → Nat} {cells slots : Nat} {Q : State → Prop} {args : Array Value} {i : Nat} {σx σm x2 m2 : sw_St} {v : Int64} (C : lx_C l p s m meth c args D cA aX aM) (hX : va_X b L xs s s.heap) (hbl : b < s.heap.size) (hL : L ≤ 3072) (hi : i + 6 ≤ L) (hcs : cells ≤ 600000 ∧ slots ≤ 7302250) (fx : F_X10_ways σx (xs (i + 1)) (xs (i + 2)) (xs (i + 3)) = some (v, x2)) (fm : F_X11_ways σm (xs (i + 1)) (xs (i + 2)) (xs (i + 3)) = some (v, m2)) (k : lx_W p l e s m args below meth c D cA aX aM cells slots Q 1266 (ly_lv b aX aM i) [] x2 m2) : lx_W p l e s m args below meth c D cA aX aM cells slots Q 853 (ly_lv b aX aM i) [] σx σm := by
  refine ly_x C (by decide +kernel) ?_
  refine ly_arg (j := 1) (jj := 1) C hX hbl hL hi (by decide) (by decide) (by decide +kernel) (by decide +kernel) (by decide +kernel) (by decide +kernel) (by decide +kernel) ?_
  refine ly_arg (j := 2) (jj := 2) C hX hbl hL hi (by decide) (by decide) (by decide +kernel) (by decide +kernel) (by decide +kernel) (by decide +kernel) (by decide +kernel) ?_
  refine ly_arg (j := 3) (jj := 3) C hX hbl hL hi (by decide) (by decide) (by decide +kernel) (by decide +kernel) (by decide +kernel) (by decide +kernel) (by decide +kernel) ?_
  refine lx_callX (N := m_X10_ways) (d := 2) (As := [.int (xs (i + 1)), .int (xs (i + 2)), .int (xs (i + 3))]) (rest := []) (n := 3) C (by decide +kernel) lz_103 mk_X10_ways rfl rfl (by decide +kernel) rfl (fun _ => rfl) (by decide) (by decide) hcs (FC_X10_ways (Nat.le_refl _) fx) (fun r s9 h9 => ?_)
  obtain ⟨v9, rfl, h91, h93⟩ := h9
  have h92 : v9 = v := h91
  have h94 : s9 = x2 := h93
  rw [h92, h94]
  show lx_W p l e s m args below meth c D cA aX aM cells slots Q 872 (ly_lv b aX aM i) [.long v] x2 σm
  refine ly_m C (by decide +kernel) ?_
  refine ly_arg (j := 1) (jj := 1) C hX hbl hL hi (by decide) (by decide) (by decide +kernel) (by decide +kernel) (by decide +kernel) (by decide +kernel) (by decide +kernel) ?_
  refine ly_arg (j := 2) (jj := 2) C hX hbl hL hi (by decide) (by decide) (by decide +kernel) (by decide +kernel) (by decide +kernel) (by decide +kernel) (by decide +kernel) ?_
  refine ly_arg (j := 3) (jj := 3) C hX hbl hL hi (by decide) (by decide) (by decide +kernel) (by decide +kernel) (by decide +kernel) (by decide +kernel) (by decide +kernel) ?_
  refine lx_callM (N := m_X11_ways) (d := 3) (As := [.int (xs (i + 1)), .int (xs (i + 2)), .int (xs (i + 3))]) (rest := [.long v]) (n := 3) C (by decide +kernel) lz_107 mk_X11_ways rfl rfl (by decide +kernel) rfl (fun _ => rfl) (Nat.le_of_ble_eq_true rfl) (by decide) hcs (FC_X11_ways (Nat.le_refl _) fm) (fun r s9 h9 => ?_)
  obtain ⟨v9, rfl, h91, h93⟩ := h9
  have h92 : v9 = v := h91
  have h94 : s9 = m2 := h93
  rw [h92, h94]
  show lx_W p l e s m args below meth c D cA aX aM cells slots Q 891 (ly_lv b aX aM i) [.long v, .long v] x2 m2
  refine ly_eqL (off := 374) (tgt := 1266) C (by decide +kernel) (by decide +kernel) (by decide) ?_
  exact k
set_option maxHeartbeats 4000000 in
theorem lz_case22 {p : Program} {l : Launch} {e : Env} {s : State} {m : MethodId} {below : List Frame} {meth : Method} {c : Code} {b L : Nat} {xs : Nat → Int32} {D : va_G} {cA : Nat → ClassId} {aX aM : Nat → Nat} {cells slots : Nat} {Q : State → Prop} {args : Array Value} {i : Nat} {σx σm x2 m2 : sw_St} {v : Int32} (C : lx_C l p s m meth c args D cA aX aM) (hX : va_X b L xs s s.heap) (hbl : b < s.heap.size) (hL : L ≤ 3072) (hi : i + 6 ≤ L) (hcs : cells ≤ 600000 ∧ slots ≤ 7302250) (fx : F_X10_feel σx  = some (v, x2)) (fm : F_X11_feel σm  = some (v, m2)) (k : lx_W p l e s m args below meth c D cA aX aM cells slots Q 1266 (ly_lv b aX aM i) [] x2 m2) : lx_W p l e s m args below meth c D cA aX aM cells slots Q 897 (ly_lv b aX aM i) [] σx σm := by
  refine ly_x C (by decide +kernel) ?_
  refine lx_callX (N := m_X10_feel) (d := 1) (As := []) (rest := []) (n := 0) C (by decide +kernel) lz_108 mk_X10_feel rfl rfl (by decide +kernel) rfl (fun _ => rfl) (by decide) (by decide) hcs (FC_X10_feel (Nat.le_refl _) fx) (fun r s9 h9 => ?_)
  obtain ⟨v9, rfl, h91, h93⟩ := h9
  have h92 : v9 = v := h91
  have h94 : s9 = x2 := h93
  rw [h92, h94]
  show lx_W p l e s m args below meth c D cA aX aM cells slots Q 901 (ly_lv b aX aM i) [.int v] x2 σm
  refine ly_m C (by decide +kernel) ?_
  refine lx_callM (N := m_X11_feel) (d := 2) (As := []) (rest := [.int v]) (n := 0) C (by decide +kernel) lz_111 mk_X11_feel rfl rfl (by decide +kernel) rfl (fun _ => rfl) (Nat.le_of_ble_eq_true rfl) (by decide) hcs (FC_X11_feel (Nat.le_refl _) fm) (fun r s9 h9 => ?_)
  obtain ⟨v9, rfl, h91, h93⟩ := h9
  have h92 : v9 = v := h91
  have h94 : s9 = m2 := h93
  rw [h92, h94]
  show lx_W p l e s m args below meth c D cA aX aM cells slots Q 905 (ly_lv b aX aM i) [.int v, .int v] x2 m2
  refine ly_eqI (off := 361) (tgt := 1266) C (by decide +kernel) (by decide) ?_
  exact k
set_option maxHeartbeats 4000000 in
theorem lz_case23 {p : Program} {l : Launch} {e : Env} {s : State} {m : MethodId} {below : List Frame} {meth : Method} {c : Code} {b L : Nat} {xs : Nat → Int32} {D : va_G} {cA : Nat → ClassId} {aX aM : Nat → Nat} {cells slots : Nat} {Q : State → Prop} {args : Array Value} {i : Nat} {σx σm x2 m2 : sw_St} {v : Int32} (C : lx_C l p s m meth c args D cA aX aM) (hX : va_X b L xs s s.heap) (hbl : b < s.heap.size) (hL : L ≤ 3072) (hi : i + 6 ≤ L) (hcs : cells ≤ 600000 ∧ slots ≤ 7302250) (fx : F_X10_curious σx (xs (i + 1)) = some (v, x2)) (fm : F_X11_curious σm (xs (i + 1)) = some (v, m2)) (k : lx_W p l e s m args below meth c D cA aX aM cells slots Q 1266 (ly_lv b aX aM i) [] x2 m2) : lx_W p l e s m args below meth c D cA aX aM cells slots Q 910 (ly_lv b aX aM i) [] σx σm := by
  refine ly_x C (by decide +kernel) ?_
  refine ly_arg (j := 1) (jj := 1) C hX hbl hL hi (by decide) (by decide) (by decide +kernel) (by decide +kernel) (by decide +kernel) (by decide +kernel) (by decide +kernel) ?_
  refine lx_callX (N := m_X10_curious) (d := 7) (As := [.int (xs (i + 1))]) (rest := []) (n := 1) C (by decide +kernel) lz_112 mk_X10_curious rfl rfl (by decide +kernel) rfl (fun _ => rfl) (by decide) (by decide) hcs (FC_X10_curious (Nat.le_refl _) fx) (fun r s9 h9 => ?_)
  obtain ⟨v9, rfl, h91, h93⟩ := h9
  have h92 : v9 = v := h91
  have h94 : s9 = x2 := h93
  rw [h92, h94]
  show lx_W p l e s m args below meth c D cA aX aM cells slots Q 919 (ly_lv b aX aM i) [.int v] x2 σm
  refine ly_m C (by decide +kernel) ?_
  refine ly_arg (j := 1) (jj := 1) C hX hbl hL hi (by decide) (by decide) (by decide +kernel) (by decide +kernel) (by decide +kernel) (by decide +kernel) (by decide +kernel) ?_
  refine lx_callM (N := m_X11_curious) (d := 8) (As := [.int (xs (i + 1))]) (rest := [.int v]) (n := 1) C (by decide +kernel) lz_115 mk_X11_curious rfl rfl (by decide +kernel) rfl (fun _ => rfl) (Nat.le_of_ble_eq_true rfl) (by decide) hcs (FC_X11_curious (Nat.le_refl _) fm) (fun r s9 h9 => ?_)
  obtain ⟨v9, rfl, h91, h93⟩ := h9
  have h92 : v9 = v := h91
  have h94 : s9 = m2 := h93
  rw [h92, h94]
  show lx_W p l e s m args below meth c D cA aX aM cells slots Q 928 (ly_lv b aX aM i) [.int v, .int v] x2 m2
  refine ly_eqI (off := 338) (tgt := 1266) C (by decide +kernel) (by decide) ?_
  exact k
set_option maxHeartbeats 4000000 in
theorem lz_case24 {p : Program} {l : Launch} {e : Env} {s : State} {m : MethodId} {below : List Frame} {meth : Method} {c : Code} {b L : Nat} {xs : Nat → Int32} {D : va_G} {cA : Nat → ClassId} {aX aM : Nat → Nat} {cells slots : Nat} {Q : State → Prop} {args : Array Value} {i : Nat} {σx σm x2 m2 : sw_St} {v : Int32} (C : lx_C l p s m meth c args D cA aX aM) (hX : va_X b L xs s s.heap) (hbl : b < s.heap.size) (hL : L ≤ 3072) (hi : i + 6 ≤ L) (hcs : cells ≤ 600000 ∧ slots ≤ 7302250) (fx : F_X10_tells σx (xs (i + 1)) (xs (i + 2)) = some (v, x2)) (fm : F_X11_tells σm (xs (i + 1)) (xs (i + 2)) = some (v, m2)) (k : lx_W p l e s m args below meth c D cA aX aM cells slots Q 1266 (ly_lv b aX aM i) [] x2 m2) : lx_W p l e s m args below meth c D cA aX aM cells slots Q 933 (ly_lv b aX aM i) [] σx σm := by
  refine ly_x C (by decide +kernel) ?_
  refine ly_arg (j := 1) (jj := 1) C hX hbl hL hi (by decide) (by decide) (by decide +kernel) (by decide +kernel) (by decide +kernel) (by decide +kernel) (by decide +kernel) ?_
  refine ly_arg (j := 2) (jj := 2) C hX hbl hL hi (by decide) (by decide) (by decide +kernel) (by decide +kernel) (by decide +kernel) (by decide +kernel) (by decide +kernel) ?_
  refine lx_callX (N := m_X10_tells) (d := 7) (As := [.int (xs (i + 1)), .int (xs (i + 2))]) (rest := []) (n := 2) C (by decide +kernel) lz_116 mk_X10_tells rfl rfl (by decide +kernel) rfl (fun _ => rfl) (by decide) (by decide) hcs (FC_X10_tells (Nat.le_refl _) fx) (fun r s9 h9 => ?_)
  obtain ⟨v9, rfl, h91, h93⟩ := h9
  have h92 : v9 = v := h91
  have h94 : s9 = x2 := h93
  rw [h92, h94]
  show lx_W p l e s m args below meth c D cA aX aM cells slots Q 947 (ly_lv b aX aM i) [.int v] x2 σm
  refine ly_m C (by decide +kernel) ?_
  refine ly_arg (j := 1) (jj := 1) C hX hbl hL hi (by decide) (by decide) (by decide +kernel) (by decide +kernel) (by decide +kernel) (by decide +kernel) (by decide +kernel) ?_
  refine ly_arg (j := 2) (jj := 2) C hX hbl hL hi (by decide) (by decide) (by decide +kernel) (by decide +kernel) (by decide +kernel) (by decide +kernel) (by decide +kernel) ?_
  refine lx_callM (N := m_X11_tells) (d := 8) (As := [.int (xs (i + 1)), .int (xs (i + 2))]) (rest := [.int v]) (n := 2) C (by decide +kernel) lz_119 mk_X11_tells rfl rfl (by decide +kernel) rfl (fun _ => rfl) (Nat.le_of_ble_eq_true rfl) (by decide) hcs (FC_X11_tells (Nat.le_refl _) fm) (fun r s9 h9 => ?_)
  obtain ⟨v9, rfl, h91, h93⟩ := h9
  have h92 : v9 = v := h91
  have h94 : s9 = m2 := h93
  rw [h92, h94]
  show lx_W p l e s m args below meth c D cA aX aM cells slots Q 961 (ly_lv b aX aM i) [.int v, .int v] x2 m2
  refine ly_eqI (off := 305) (tgt := 1266) C (by decide +kernel) (by decide) ?_
  exact k
set_option maxHeartbeats 4000000 in
theorem lz_case25 {p : Program} {l : Launch} {e : Env} {s : State} {m : MethodId} {below : List Frame} {meth : Method} {c : Code} {b L : Nat} {xs : Nat → Int32} {D : va_G} {cA : Nat → ClassId} {aX aM : Nat → Nat} {cells slots : Nat} {Q : State → Prop} {args : Array Value} {i : Nat} {σx σm x2 m2 : sw_St} {v : Int32} (C : lx_C l p s m meth c args D cA aX aM) (hX : va_X b L xs s s.heap) (hbl : b < s.heap.size) (hL : L ≤ 3072) (hi : i + 6 ≤ L) (hcs : cells ≤ 600000 ∧ slots ≤ 7302250) (fx : F_X10_shear σx (xs (i + 1)) = some (v, x2)) (fm : F_X11_shear σm (xs (i + 1)) = some (v, m2)) (k : lx_W p l e s m args below meth c D cA aX aM cells slots Q 1266 (ly_lv b aX aM i) [] x2 m2) : lx_W p l e s m args below meth c D cA aX aM cells slots Q 966 (ly_lv b aX aM i) [] σx σm := by
  refine ly_x C (by decide +kernel) ?_
  refine ly_arg (j := 1) (jj := 1) C hX hbl hL hi (by decide) (by decide) (by decide +kernel) (by decide +kernel) (by decide +kernel) (by decide +kernel) (by decide +kernel) ?_
  refine lx_callX (N := m_X10_shear) (d := 4) (As := [.int (xs (i + 1))]) (rest := []) (n := 1) C (by decide +kernel) lz_120 mk_X10_shear rfl rfl (by decide +kernel) rfl (fun _ => rfl) (by decide) (by decide) hcs (FC_X10_shear (Nat.le_refl _) fx) (fun r s9 h9 => ?_)
  obtain ⟨v9, rfl, h91, h93⟩ := h9
  have h92 : v9 = v := h91
  have h94 : s9 = x2 := h93
  rw [h92, h94]
  show lx_W p l e s m args below meth c D cA aX aM cells slots Q 975 (ly_lv b aX aM i) [.int v] x2 σm
  refine ly_m C (by decide +kernel) ?_
  refine ly_arg (j := 1) (jj := 1) C hX hbl hL hi (by decide) (by decide) (by decide +kernel) (by decide +kernel) (by decide +kernel) (by decide +kernel) (by decide +kernel) ?_
  refine lx_callM (N := m_X11_shear) (d := 4) (As := [.int (xs (i + 1))]) (rest := [.int v]) (n := 1) C (by decide +kernel) lz_123 mk_X11_shear rfl rfl (by decide +kernel) rfl (fun _ => rfl) (Nat.le_of_ble_eq_true rfl) (by decide) hcs (FC_X11_shear (Nat.le_refl _) fm) (fun r s9 h9 => ?_)
  obtain ⟨v9, rfl, h91, h93⟩ := h9
  have h92 : v9 = v := h91
  have h94 : s9 = m2 := h93
  rw [h92, h94]
  show lx_W p l e s m args below meth c D cA aX aM cells slots Q 984 (ly_lv b aX aM i) [.int v, .int v] x2 m2
  refine ly_eqI (off := 282) (tgt := 1266) C (by decide +kernel) (by decide) ?_
  exact k
set_option maxHeartbeats 4000000 in
theorem lz_case26 {p : Program} {l : Launch} {e : Env} {s : State} {m : MethodId} {below : List Frame} {meth : Method} {c : Code} {b L : Nat} {xs : Nat → Int32} {D : va_G} {cA : Nat → ClassId} {aX aM : Nat → Nat} {cells slots : Nat} {Q : State → Prop} {args : Array Value} {i : Nat} {σx σm x2 m2 : sw_St} {v : Int32} (C : lx_C l p s m meth c args D cA aX aM) (hX : va_X b L xs s s.heap) (hbl : b < s.heap.size) (hL : L ≤ 3072) (hi : i + 6 ≤ L) (hcs : cells ≤ 600000 ∧ slots ≤ 7302250) (fx : F_X10_lead σx (xs (i + 1)) (xs (i + 2)) = some (v, x2)) (fm : F_X11_lead σm (xs (i + 1)) (xs (i + 2)) = some (v, m2)) (k : lx_W p l e s m args below meth c D cA aX aM cells slots Q 1266 (ly_lv b aX aM i) [] x2 m2) : lx_W p l e s m args below meth c D cA aX aM cells slots Q 989 (ly_lv b aX aM i) [] σx σm := by
  refine ly_x C (by decide +kernel) ?_
  refine ly_arg (j := 1) (jj := 1) C hX hbl hL hi (by decide) (by decide) (by decide +kernel) (by decide +kernel) (by decide +kernel) (by decide +kernel) (by decide +kernel) ?_
  refine ly_arg (j := 2) (jj := 2) C hX hbl hL hi (by decide) (by decide) (by decide +kernel) (by decide +kernel) (by decide +kernel) (by decide +kernel) (by decide +kernel) ?_
  refine lx_callX (N := m_X10_lead) (d := 3) (As := [.int (xs (i + 1)), .int (xs (i + 2))]) (rest := []) (n := 2) C (by decide +kernel) lz_124 mk_X10_lead rfl rfl (by decide +kernel) rfl (fun _ => rfl) (by decide) (by decide) hcs (FC_X10_lead (Nat.le_refl _) fx) (fun r s9 h9 => ?_)
  obtain ⟨v9, rfl, h91, h93⟩ := h9
  have h92 : v9 = v := h91
  have h94 : s9 = x2 := h93
  rw [h92, h94]
  show lx_W p l e s m args below meth c D cA aX aM cells slots Q 1003 (ly_lv b aX aM i) [.int v] x2 σm
  refine ly_m C (by decide +kernel) ?_
  refine ly_arg (j := 1) (jj := 1) C hX hbl hL hi (by decide) (by decide) (by decide +kernel) (by decide +kernel) (by decide +kernel) (by decide +kernel) (by decide +kernel) ?_
  refine ly_arg (j := 2) (jj := 2) C hX hbl hL hi (by decide) (by decide) (by decide +kernel) (by decide +kernel) (by decide +kernel) (by decide +kernel) (by decide +kernel) ?_
  refine lx_callM (N := m_X11_lead) (d := 4) (As := [.int (xs (i + 1)), .int (xs (i + 2))]) (rest := [.int v]) (n := 2) C (by decide +kernel) lz_128 mk_X11_lead rfl rfl (by decide +kernel) rfl (fun _ => rfl) (Nat.le_of_ble_eq_true rfl) (by decide) hcs (FC_X11_lead (Nat.le_refl _) fm) (fun r s9 h9 => ?_)
  obtain ⟨v9, rfl, h91, h93⟩ := h9
  have h92 : v9 = v := h91
  have h94 : s9 = m2 := h93
  rw [h92, h94]
  show lx_W p l e s m args below meth c D cA aX aM cells slots Q 1017 (ly_lv b aX aM i) [.int v, .int v] x2 m2
  refine ly_eqI (off := 249) (tgt := 1266) C (by decide +kernel) (by decide) ?_
  exact k
set_option maxHeartbeats 4000000 in
theorem lz_case27 {p : Program} {l : Launch} {e : Env} {s : State} {m : MethodId} {below : List Frame} {meth : Method} {c : Code} {b L : Nat} {xs : Nat → Int32} {D : va_G} {cA : Nat → ClassId} {aX aM : Nat → Nat} {cells slots : Nat} {Q : State → Prop} {args : Array Value} {i : Nat} {σx σm x2 m2 : sw_St} {v : Int32} (C : lx_C l p s m meth c args D cA aX aM) (hX : va_X b L xs s s.heap) (hbl : b < s.heap.size) (hL : L ≤ 3072) (hi : i + 6 ≤ L) (hcs : cells ≤ 600000 ∧ slots ≤ 7302250) (fx : F_X10_swing σx (xs (i + 1)) (xs (i + 2)) = some (v, x2)) (fm : F_X11_swing σm (xs (i + 1)) (xs (i + 2)) = some (v, m2)) (k : lx_W p l e s m args below meth c D cA aX aM cells slots Q 1266 (ly_lv b aX aM i) [] x2 m2) : lx_W p l e s m args below meth c D cA aX aM cells slots Q 1022 (ly_lv b aX aM i) [] σx σm := by
  refine ly_x C (by decide +kernel) ?_
  refine ly_arg (j := 1) (jj := 1) C hX hbl hL hi (by decide) (by decide) (by decide +kernel) (by decide +kernel) (by decide +kernel) (by decide +kernel) (by decide +kernel) ?_
  refine ly_arg (j := 2) (jj := 2) C hX hbl hL hi (by decide) (by decide) (by decide +kernel) (by decide +kernel) (by decide +kernel) (by decide +kernel) (by decide +kernel) ?_
  refine lx_callX (N := m_X10_swing) (d := 3) (As := [.int (xs (i + 1)), .int (xs (i + 2))]) (rest := []) (n := 2) C (by decide +kernel) lz_129 mk_X10_swing rfl rfl (by decide +kernel) rfl (fun _ => rfl) (by decide) (by decide) hcs (FC_X10_swing (Nat.le_refl _) fx) (fun r s9 h9 => ?_)
  obtain ⟨v9, rfl, h91, h93⟩ := h9
  have h92 : v9 = v := h91
  have h94 : s9 = x2 := h93
  rw [h92, h94]
  show lx_W p l e s m args below meth c D cA aX aM cells slots Q 1036 (ly_lv b aX aM i) [.int v] x2 σm
  refine ly_m C (by decide +kernel) ?_
  refine ly_arg (j := 1) (jj := 1) C hX hbl hL hi (by decide) (by decide) (by decide +kernel) (by decide +kernel) (by decide +kernel) (by decide +kernel) (by decide +kernel) ?_
  refine ly_arg (j := 2) (jj := 2) C hX hbl hL hi (by decide) (by decide) (by decide +kernel) (by decide +kernel) (by decide +kernel) (by decide +kernel) (by decide +kernel) ?_
  refine lx_callM (N := m_X11_swing) (d := 2) (As := [.int (xs (i + 1)), .int (xs (i + 2))]) (rest := [.int v]) (n := 2) C (by decide +kernel) lz_132 mk_X11_swing rfl rfl (by decide +kernel) rfl (fun _ => rfl) (Nat.le_of_ble_eq_true rfl) (by decide) hcs (FC_X11_swing (Nat.le_refl _) fm) (fun r s9 h9 => ?_)
  obtain ⟨v9, rfl, h91, h93⟩ := h9
  have h92 : v9 = v := h91
  have h94 : s9 = m2 := h93
  rw [h92, h94]
  show lx_W p l e s m args below meth c D cA aX aM cells slots Q 1050 (ly_lv b aX aM i) [.int v, .int v] x2 m2
  refine ly_eqI (off := 216) (tgt := 1266) C (by decide +kernel) (by decide) ?_
  exact k
set_option maxHeartbeats 4000000 in
theorem lz_case28 {p : Program} {l : Launch} {e : Env} {s : State} {m : MethodId} {below : List Frame} {meth : Method} {c : Code} {b L : Nat} {xs : Nat → Int32} {D : va_G} {cA : Nat → ClassId} {aX aM : Nat → Nat} {cells slots : Nat} {Q : State → Prop} {args : Array Value} {i : Nat} {σx σm x2 m2 : sw_St} {v : Int32} (C : lx_C l p s m meth c args D cA aX aM) (hX : va_X b L xs s s.heap) (hbl : b < s.heap.size) (hL : L ≤ 3072) (hi : i + 6 ≤ L) (hcs : cells ≤ 600000 ∧ slots ≤ 7302250) (fx : F_X10_tell σx (xs (i + 1)) (xs (i + 2)) (xs (i + 3)) = some (v, x2)) (fm : F_X11_tell σm (xs (i + 1)) (xs (i + 2)) (xs (i + 3)) = some (v, m2)) (k : lx_W p l e s m args below meth c D cA aX aM cells slots Q 1266 (ly_lv b aX aM i) [] x2 m2) : lx_W p l e s m args below meth c D cA aX aM cells slots Q 1055 (ly_lv b aX aM i) [] σx σm := by
  refine ly_x C (by decide +kernel) ?_
  refine ly_arg (j := 1) (jj := 1) C hX hbl hL hi (by decide) (by decide) (by decide +kernel) (by decide +kernel) (by decide +kernel) (by decide +kernel) (by decide +kernel) ?_
  refine ly_arg (j := 2) (jj := 2) C hX hbl hL hi (by decide) (by decide) (by decide +kernel) (by decide +kernel) (by decide +kernel) (by decide +kernel) (by decide +kernel) ?_
  refine ly_arg (j := 3) (jj := 3) C hX hbl hL hi (by decide) (by decide) (by decide +kernel) (by decide +kernel) (by decide +kernel) (by decide +kernel) (by decide +kernel) ?_
  refine lx_callX (N := m_X10_tell) (d := 3) (As := [.int (xs (i + 1)), .int (xs (i + 2)), .int (xs (i + 3))]) (rest := []) (n := 3) C (by decide +kernel) lz_133 mk_X10_tell rfl rfl (by decide +kernel) rfl (fun _ => rfl) (by decide) (by decide) hcs (FC_X10_tell (Nat.le_refl _) fx) (fun r s9 h9 => ?_)
  obtain ⟨v9, rfl, h91, h93⟩ := h9
  have h92 : v9 = v := h91
  have h94 : s9 = x2 := h93
  rw [h92, h94]
  show lx_W p l e s m args below meth c D cA aX aM cells slots Q 1074 (ly_lv b aX aM i) [.int v] x2 σm
  refine ly_m C (by decide +kernel) ?_
  refine ly_arg (j := 1) (jj := 1) C hX hbl hL hi (by decide) (by decide) (by decide +kernel) (by decide +kernel) (by decide +kernel) (by decide +kernel) (by decide +kernel) ?_
  refine ly_arg (j := 2) (jj := 2) C hX hbl hL hi (by decide) (by decide) (by decide +kernel) (by decide +kernel) (by decide +kernel) (by decide +kernel) (by decide +kernel) ?_
  refine ly_arg (j := 3) (jj := 3) C hX hbl hL hi (by decide) (by decide) (by decide +kernel) (by decide +kernel) (by decide +kernel) (by decide +kernel) (by decide +kernel) ?_
  refine lx_callM (N := m_X11_tell) (d := 2) (As := [.int (xs (i + 1)), .int (xs (i + 2)), .int (xs (i + 3))]) (rest := [.int v]) (n := 3) C (by decide +kernel) lz_137 mk_X11_tell rfl rfl (by decide +kernel) rfl (fun _ => rfl) (Nat.le_of_ble_eq_true rfl) (by decide) hcs (FC_X11_tell (Nat.le_refl _) fm) (fun r s9 h9 => ?_)
  obtain ⟨v9, rfl, h91, h93⟩ := h9
  have h92 : v9 = v := h91
  have h94 : s9 = m2 := h93
  rw [h92, h94]
  show lx_W p l e s m args below meth c D cA aX aM cells slots Q 1093 (ly_lv b aX aM i) [.int v, .int v] x2 m2
  refine ly_eqI (off := 173) (tgt := 1266) C (by decide +kernel) (by decide) ?_
  exact k
set_option maxHeartbeats 4000000 in
theorem lz_case29 {p : Program} {l : Launch} {e : Env} {s : State} {m : MethodId} {below : List Frame} {meth : Method} {c : Code} {b L : Nat} {xs : Nat → Int32} {D : va_G} {cA : Nat → ClassId} {aX aM : Nat → Nat} {cells slots : Nat} {Q : State → Prop} {args : Array Value} {i : Nat} {σx σm x2 m2 : sw_St} {v : Int32} (C : lx_C l p s m meth c args D cA aX aM) (hX : va_X b L xs s s.heap) (hbl : b < s.heap.size) (hL : L ≤ 3072) (hi : i + 6 ≤ L) (hcs : cells ≤ 600000 ∧ slots ≤ 7302250) (fx : F_X10_days σx (xs (i + 1)) = some (v, x2)) (fm : F_X11_days σm (xs (i + 1)) = some (v, m2)) (k : lx_W p l e s m args below meth c D cA aX aM cells slots Q 1266 (ly_lv b aX aM i) [] x2 m2) : lx_W p l e s m args below meth c D cA aX aM cells slots Q 1098 (ly_lv b aX aM i) [] σx σm := by
  refine ly_x C (by decide +kernel) ?_
  refine ly_arg (j := 1) (jj := 1) C hX hbl hL hi (by decide) (by decide) (by decide +kernel) (by decide +kernel) (by decide +kernel) (by decide +kernel) (by decide +kernel) ?_
  refine lx_callX (N := m_X10_days) (d := 7) (As := [.int (xs (i + 1))]) (rest := []) (n := 1) C (by decide +kernel) lz_138 mk_X10_days rfl rfl (by decide +kernel) rfl (fun _ => rfl) (by decide) (by decide) hcs (FC_X10_days (Nat.le_refl _) fx) (fun r s9 h9 => ?_)
  obtain ⟨v9, rfl, h91, h93⟩ := h9
  have h92 : v9 = v := h91
  have h94 : s9 = x2 := h93
  rw [h92, h94]
  show lx_W p l e s m args below meth c D cA aX aM cells slots Q 1107 (ly_lv b aX aM i) [.int v] x2 σm
  refine ly_m C (by decide +kernel) ?_
  refine ly_arg (j := 1) (jj := 1) C hX hbl hL hi (by decide) (by decide) (by decide +kernel) (by decide +kernel) (by decide +kernel) (by decide +kernel) (by decide +kernel) ?_
  refine lx_callM (N := m_X11_days) (d := 8) (As := [.int (xs (i + 1))]) (rest := [.int v]) (n := 1) C (by decide +kernel) lz_141 mk_X11_days rfl rfl (by decide +kernel) rfl (fun _ => rfl) (Nat.le_of_ble_eq_true rfl) (by decide) hcs (FC_X11_days (Nat.le_refl _) fm) (fun r s9 h9 => ?_)
  obtain ⟨v9, rfl, h91, h93⟩ := h9
  have h92 : v9 = v := h91
  have h94 : s9 = m2 := h93
  rw [h92, h94]
  show lx_W p l e s m args below meth c D cA aX aM cells slots Q 1116 (ly_lv b aX aM i) [.int v, .int v] x2 m2
  refine ly_eqI (off := 150) (tgt := 1266) C (by decide +kernel) (by decide) ?_
  exact k

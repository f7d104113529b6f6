set_option maxHeartbeats 4000000 in
theorem lz_case30 {p : Program} {l : Launch} {e : Env} {s : State} {m : MethodId} {below : List Frame} {meth : Method} {c : Code} {b L : Nat} {xs : Nat → Int32} {D : va_G} {cA : Nat → ClassId} {aX aM : Nat → Nat} {cells slots : Nat} {Q : State → Prop} {args : Array Value} {i : Nat} {σx σm x2 m2 : sw_St} {v : Int32} (C : lx_C l p s m meth c args D cA aX aM) (hX : va_X b L xs s s.heap) (hbl : b < s.heap.size) (hL : L ≤ 3072) (hi : i + 6 ≤ L) (hcs : cells ≤ 600000 ∧ slots ≤ 7302250) (fx : F_X10_chance σx (xs (i + 1)) = some (v, x2)) (fm : F_X11_chance σm (xs (i + 1)) = some (v, m2)) (k : lx_W p l e s m args below meth c D cA aX aM cells slots Q 1266 (ly_lv b aX aM i) [] x2 m2) : lx_W p l e s m args below meth c D cA aX aM cells slots Q 1121 (ly_lv b aX aM i) [] σx σm := by
  refine ly_x C (by decide +kernel) ?_
  refine ly_arg (j := 1) (jj := 1) C hX hbl hL hi (by decide) (by decide) (by decide +kernel) (by decide +kernel) (by decide +kernel) (by decide +kernel) (by decide +kernel) ?_
  refine lx_callX (N := m_X10_chance) (d := 7) (As := [.int (xs (i + 1))]) (rest := []) (n := 1) C (by decide +kernel) lz_142 mk_X10_chance rfl rfl (by decide +kernel) rfl (fun _ => rfl) (by decide) (by decide) hcs (FC_X10_chance (Nat.le_refl _) fx) (fun r s9 h9 => ?_)
  obtain ⟨v9, rfl, h91, h93⟩ := h9
  have h92 : v9 = v := h91
  have h94 : s9 = x2 := h93
  rw [h92, h94]
  show lx_W p l e s m args below meth c D cA aX aM cells slots Q 1130 (ly_lv b aX aM i) [.int v] x2 σm
  refine ly_m C (by decide +kernel) ?_
  refine ly_arg (j := 1) (jj := 1) C hX hbl hL hi (by decide) (by decide) (by decide +kernel) (by decide +kernel) (by decide +kernel) (by decide +kernel) (by decide +kernel) ?_
  refine lx_callM (N := m_X11_chance) (d := 7) (As := [.int (xs (i + 1))]) (rest := [.int v]) (n := 1) C (by decide +kernel) lz_145 mk_X11_chance rfl rfl (by decide +kernel) rfl (fun _ => rfl) (Nat.le_of_ble_eq_true rfl) (by decide) hcs (FC_X11_chance (Nat.le_refl _) fm) (fun r s9 h9 => ?_)
  obtain ⟨v9, rfl, h91, h93⟩ := h9
  have h92 : v9 = v := h91
  have h94 : s9 = m2 := h93
  rw [h92, h94]
  show lx_W p l e s m args below meth c D cA aX aM cells slots Q 1139 (ly_lv b aX aM i) [.int v, .int v] x2 m2
  refine ly_eqI (off := 127) (tgt := 1266) C (by decide +kernel) (by decide) ?_
  exact k
set_option maxHeartbeats 4000000 in
theorem lz_case31 {p : Program} {l : Launch} {e : Env} {s : State} {m : MethodId} {below : List Frame} {meth : Method} {c : Code} {b L : Nat} {xs : Nat → Int32} {D : va_G} {cA : Nat → ClassId} {aX aM : Nat → Nat} {cells slots : Nat} {Q : State → Prop} {args : Array Value} {i : Nat} {σx σm x2 m2 : sw_St} {v : Int32} (C : lx_C l p s m meth c args D cA aX aM) (hX : va_X b L xs s s.heap) (hbl : b < s.heap.size) (hL : L ≤ 3072) (hi : i + 6 ≤ L) (hcs : cells ≤ 600000 ∧ slots ≤ 7302250) (fx : F_X10_undo σx  = some (v, x2)) (fm : F_X11_undo σm  = some (v, m2)) (k : lx_W p l e s m args below meth c D cA aX aM cells slots Q 1266 (ly_lv b aX aM i) [] x2 m2) : lx_W p l e s m args below meth c D cA aX aM cells slots Q 1144 (ly_lv b aX aM i) [] σx σm := by
  refine ly_x C (by decide +kernel) ?_
  refine lx_callX (N := m_X10_undo) (d := 3) (As := []) (rest := []) (n := 0) C (by decide +kernel) lz_146 mk_X10_undo rfl rfl (by decide +kernel) rfl (fun _ => rfl) (by decide) (by decide) hcs (FC_X10_undo (Nat.le_refl _) fx) (fun r s9 h9 => ?_)
  obtain ⟨v9, rfl, h91, h93⟩ := h9
  have h92 : v9 = v := h91
  have h94 : s9 = x2 := h93
  rw [h92, h94]
  show lx_W p l e s m args below meth c D cA aX aM cells slots Q 1148 (ly_lv b aX aM i) [.int v] x2 σm
  refine ly_m C (by decide +kernel) ?_
  refine lx_callM (N := m_X11_undo) (d := 0) (As := []) (rest := [.int v]) (n := 0) C (by decide +kernel) lz_150 mk_X11_undo rfl rfl (by decide +kernel) rfl (fun _ => rfl) (Nat.le_of_ble_eq_true rfl) (by decide) hcs (FC_X11_undo (Nat.le_refl _) fm) (fun r s9 h9 => ?_)
  obtain ⟨v9, rfl, h91, h93⟩ := h9
  have h92 : v9 = v := h91
  have h94 : s9 = m2 := h93
  rw [h92, h94]
  show lx_W p l e s m args below meth c D cA aX aM cells slots Q 1152 (ly_lv b aX aM i) [.int v, .int v] x2 m2
  refine ly_eqI (off := 114) (tgt := 1266) C (by decide +kernel) (by decide) ?_
  exact k
set_option maxHeartbeats 4000000 in
theorem lz_case32 {p : Program} {l : Launch} {e : Env} {s : State} {m : MethodId} {below : List Frame} {meth : Method} {c : Code} {b L : Nat} {xs : Nat → Int32} {D : va_G} {cA : Nat → ClassId} {aX aM : Nat → Nat} {cells slots : Nat} {Q : State → Prop} {args : Array Value} {i : Nat} {σx σm x2 m2 : sw_St} {v : Int32} (C : lx_C l p s m meth c args D cA aX aM) (hX : va_X b L xs s s.heap) (hbl : b < s.heap.size) (hL : L ≤ 3072) (hi : i + 6 ≤ L) (hcs : cells ≤ 600000 ∧ slots ≤ 7302250) (fx : F_X10_seed σx (xs (i + 1)) = some (v, x2)) (fm : F_X11_seed σm (xs (i + 1)) = some (v, m2)) (k : lx_W p l e s m args below meth c D cA aX aM cells slots Q 1266 (ly_lv b aX aM i) [] x2 m2) : lx_W p l e s m args below meth c D cA aX aM cells slots Q 1157 (ly_lv b aX aM i) [] σx σm := by
  refine ly_x C (by decide +kernel) ?_
  refine ly_arg (j := 1) (jj := 1) C hX hbl hL hi (by decide) (by decide) (by decide +kernel) (by decide +kernel) (by decide +kernel) (by decide +kernel) (by decide +kernel) ?_
  refine lx_callX (N := m_X10_seed) (d := 1) (As := [.int (xs (i + 1))]) (rest := []) (n := 1) C (by decide +kernel) lz_151 mk_X10_seed rfl rfl (by decide +kernel) rfl (fun _ => rfl) (by decide) (by decide) hcs (FC_X10_seed (Nat.le_refl _) fx) (fun r s9 h9 => ?_)
  obtain ⟨v9, rfl, h91, h93⟩ := h9
  have h92 : v9 = v := h91
  have h94 : s9 = x2 := h93
  rw [h92, h94]
  show lx_W p l e s m args below meth c D cA aX aM cells slots Q 1166 (ly_lv b aX aM i) [.int v] x2 σm
  refine ly_m C (by decide +kernel) ?_
  refine ly_arg (j := 1) (jj := 1) C hX hbl hL hi (by decide) (by decide) (by decide +kernel) (by decide +kernel) (by decide +kernel) (by decide +kernel) (by decide +kernel) ?_
  refine lx_callM (N := m_X11_seed) (d := 0) (As := [.int (xs (i + 1))]) (rest := [.int v]) (n := 1) C (by decide +kernel) lz_154 mk_X11_seed rfl rfl (by decide +kernel) rfl (fun _ => rfl) (Nat.le_of_ble_eq_true rfl) (by decide) hcs (FC_X11_seed (Nat.le_refl _) fm) (fun r s9 h9 => ?_)
  obtain ⟨v9, rfl, h91, h93⟩ := h9
  have h92 : v9 = v := h91
  have h94 : s9 = m2 := h93
  rw [h92, h94]
  show lx_W p l e s m args below meth c D cA aX aM cells slots Q 1175 (ly_lv b aX aM i) [.int v, .int v] x2 m2
  refine ly_eqI (off := 91) (tgt := 1266) C (by decide +kernel) (by decide) ?_
  exact k
set_option maxHeartbeats 4000000 in
theorem lz_case33 {p : Program} {l : Launch} {e : Env} {s : State} {m : MethodId} {below : List Frame} {meth : Method} {c : Code} {b L : Nat} {xs : Nat → Int32} {D : va_G} {cA : Nat → ClassId} {aX aM : Nat → Nat} {cells slots : Nat} {Q : State → Prop} {args : Array Value} {i : Nat} {σx σm x2 m2 : sw_St} {v : Int64} (C : lx_C l p s m meth c args D cA aX aM) (hX : va_X b L xs s s.heap) (hbl : b < s.heap.size) (hL : L ≤ 3072) (hi : i + 6 ≤ L) (hcs : cells ≤ 600000 ∧ slots ≤ 7302250) (fx : F_X10_ask σx  = some (v, x2)) (fm : F_X11_ask σm  = some (v, m2)) (k : lx_W p l e s m args below meth c D cA aX aM cells slots Q 1266 (ly_lv b aX aM i) [] x2 m2) : lx_W p l e s m args below meth c D cA aX aM cells slots Q 1180 (ly_lv b aX aM i) [] σx σm := by
  refine ly_x C (by decide +kernel) ?_
  refine lx_callX (N := m_X10_ask) (d := 69) (As := []) (rest := []) (n := 0) C (by decide +kernel) lz_155 mk_X10_ask rfl rfl (by decide +kernel) rfl (fun _ => rfl) (by decide) (by decide) hcs (FC_X10_ask (Nat.le_refl _) fx) (fun r s9 h9 => ?_)
  obtain ⟨v9, rfl, h91, h93⟩ := h9
  have h92 : v9 = v := h91
  have h94 : s9 = x2 := h93
  rw [h92, h94]
  show lx_W p l e s m args below meth c D cA aX aM cells slots Q 1184 (ly_lv b aX aM i) [.long v] x2 σm
  refine ly_m C (by decide +kernel) ?_
  refine lx_callM (N := m_X11_ask) (d := 9) (As := []) (rest := [.long v]) (n := 0) C (by decide +kernel) lz_159 mk_X11_ask rfl rfl (by decide +kernel) rfl (fun _ => rfl) (Nat.le_of_ble_eq_true rfl) (by decide) hcs (FC_X11_ask (Nat.le_refl _) fm) (fun r s9 h9 => ?_)
  obtain ⟨v9, rfl, h91, h93⟩ := h9
  have h92 : v9 = v := h91
  have h94 : s9 = m2 := h93
  rw [h92, h94]
  show lx_W p l e s m args below meth c D cA aX aM cells slots Q 1188 (ly_lv b aX aM i) [.long v, .long v] x2 m2
  refine ly_eqL (off := 77) (tgt := 1266) C (by decide +kernel) (by decide +kernel) (by decide) ?_
  exact k
set_option maxHeartbeats 4000000 in
theorem lz_case34 {p : Program} {l : Launch} {e : Env} {s : State} {m : MethodId} {below : List Frame} {meth : Method} {c : Code} {b L : Nat} {xs : Nat → Int32} {D : va_G} {cA : Nat → ClassId} {aX aM : Nat → Nat} {cells slots : Nat} {Q : State → Prop} {args : Array Value} {i : Nat} {σx σm x2 m2 : sw_St} {v : Int32} (C : lx_C l p s m meth c args D cA aX aM) (hX : va_X b L xs s s.heap) (hbl : b < s.heap.size) (hL : L ≤ 3072) (hi : i + 6 ≤ L) (hcs : cells ≤ 600000 ∧ slots ≤ 7302250) (fx : F_X10_image σx  = some (v, x2)) (fm : F_X11_image σm  = some (v, m2)) (k : lx_W p l e s m args below meth c D cA aX aM cells slots Q 1266 (ly_lv b aX aM i) [] x2 m2) : lx_W p l e s m args below meth c D cA aX aM cells slots Q 1194 (ly_lv b aX aM i) [] σx σm := by
  refine ly_x C (by decide +kernel) ?_
  refine lx_callX (N := m_X10_image) (d := 2) (As := []) (rest := []) (n := 0) C (by decide +kernel) lz_160 mk_X10_image rfl rfl (by decide +kernel) rfl (fun _ => rfl) (by decide) (by decide) hcs (FC_X10_image (Nat.le_refl _) fx) (fun r s9 h9 => ?_)
  obtain ⟨v9, rfl, h91, h93⟩ := h9
  have h92 : v9 = v := h91
  have h94 : s9 = x2 := h93
  rw [h92, h94]
  show lx_W p l e s m args below meth c D cA aX aM cells slots Q 1198 (ly_lv b aX aM i) [.int v] x2 σm
  refine ly_m C (by decide +kernel) ?_
  refine lx_callM (N := m_X11_image) (d := 2) (As := []) (rest := [.int v]) (n := 0) C (by decide +kernel) lz_163 mk_X11_image rfl rfl (by decide +kernel) rfl (fun _ => rfl) (Nat.le_of_ble_eq_true rfl) (by decide) hcs (FC_X11_image (Nat.le_refl _) fm) (fun r s9 h9 => ?_)
  obtain ⟨v9, rfl, h91, h93⟩ := h9
  have h92 : v9 = v := h91
  have h94 : s9 = m2 := h93
  rw [h92, h94]
  show lx_W p l e s m args below meth c D cA aX aM cells slots Q 1202 (ly_lv b aX aM i) [.int v, .int v] x2 m2
  refine ly_eqI (off := 64) (tgt := 1266) C (by decide +kernel) (by decide) ?_
  exact k
set_option maxHeartbeats 4000000 in
theorem lz_case35 {p : Program} {l : Launch} {e : Env} {s : State} {m : MethodId} {below : List Frame} {meth : Method} {c : Code} {b L : Nat} {xs : Nat → Int32} {D : va_G} {cA : Nat → ClassId} {aX aM : Nat → Nat} {cells slots : Nat} {Q : State → Prop} {args : Array Value} {i : Nat} {σx σm x2 m2 : sw_St} {v : Int32} (C : lx_C l p s m meth c args D cA aX aM) (hX : va_X b L xs s s.heap) (hbl : b < s.heap.size) (hL : L ≤ 3072) (hi : i + 6 ≤ L) (hcs : cells ≤ 600000 ∧ slots ≤ 7302250) (fx : F_X10_octet σx (xs (i + 1)) = some (v, x2)) (fm : F_X11_octet σm (xs (i + 1)) = some (v, m2)) (k : lx_W p l e s m args below meth c D cA aX aM cells slots Q 1266 (ly_lv b aX aM i) [] x2 m2) : lx_W p l e s m args below meth c D cA aX aM cells slots Q 1207 (ly_lv b aX aM i) [] σx σm := by
  refine ly_x C (by decide +kernel) ?_
  refine ly_arg (j := 1) (jj := 1) C hX hbl hL hi (by decide) (by decide) (by decide +kernel) (by decide +kernel) (by decide +kernel) (by decide +kernel) (by decide +kernel) ?_
  refine lx_callX (N := m_X10_octet) (d := 0) (As := [.int (xs (i + 1))]) (rest := []) (n := 1) C (by decide +kernel) lz_164 mk_X10_octet rfl rfl (by decide +kernel) rfl (fun _ => rfl) (by decide) (by decide) hcs (FC_X10_octet (Nat.le_refl _) fx) (fun r s9 h9 => ?_)
  obtain ⟨v9, rfl, h91, h93⟩ := h9
  have h92 : v9 = v := h91
  have h94 : s9 = x2 := h93
  rw [h92, h94]
  show lx_W p l e s m args below meth c D cA aX aM cells slots Q 1216 (ly_lv b aX aM i) [.int v] x2 σm
  refine ly_m C (by decide +kernel) ?_
  refine ly_arg (j := 1) (jj := 1) C hX hbl hL hi (by decide) (by decide) (by decide +kernel) (by decide +kernel) (by decide +kernel) (by decide +kernel) (by decide +kernel) ?_
  refine lx_callM (N := m_X11_octet) (d := 0) (As := [.int (xs (i + 1))]) (rest := [.int v]) (n := 1) C (by decide +kernel) lz_167 mk_X11_octet rfl rfl (by decide +kernel) rfl (fun _ => rfl) (Nat.le_of_ble_eq_true rfl) (by decide) hcs (FC_X11_octet (Nat.le_refl _) fm) (fun r s9 h9 => ?_)
  obtain ⟨v9, rfl, h91, h93⟩ := h9
  have h92 : v9 = v := h91
  have h94 : s9 = m2 := h93
  rw [h92, h94]
  show lx_W p l e s m args below meth c D cA aX aM cells slots Q 1225 (ly_lv b aX aM i) [.int v, .int v] x2 m2
  refine ly_eqI (off := 41) (tgt := 1266) C (by decide +kernel) (by decide) ?_
  exact k
set_option maxHeartbeats 4000000 in
theorem lz_case36 {p : Program} {l : Launch} {e : Env} {s : State} {m : MethodId} {below : List Frame} {meth : Method} {c : Code} {b L : Nat} {xs : Nat → Int32} {D : va_G} {cA : Nat → ClassId} {aX aM : Nat → Nat} {cells slots : Nat} {Q : State → Prop} {args : Array Value} {i : Nat} {σx σm x2 m2 : sw_St} {v : Int32} (C : lx_C l p s m meth c args D cA aX aM) (hX : va_X b L xs s s.heap) (hbl : b < s.heap.size) (hL : L ≤ 3072) (hi : i + 6 ≤ L) (hcs : cells ≤ 600000 ∧ slots ≤ 7302250) (fx : F_X10_on σx  = some (v, x2)) (fm : F_X11_on σm  = some (v, m2)) (k : lx_W p l e s m args below meth c D cA aX aM cells slots Q 1266 (ly_lv b aX aM i) [] x2 m2) : lx_W p l e s m args below meth c D cA aX aM cells slots Q 1230 (ly_lv b aX aM i) [] σx σm := by
  refine ly_x C (by decide +kernel) ?_
  refine lx_callX (N := m_X10_on) (d := 2) (As := []) (rest := []) (n := 0) C (by decide +kernel) lz_168 mk_X10_on rfl rfl (by decide +kernel) rfl (fun _ => rfl) (by decide) (by decide) hcs (FC_X10_on (Nat.le_refl _) fx) (fun r s9 h9 => ?_)
  obtain ⟨v9, rfl, h91, h93⟩ := h9
  have h92 : v9 = v := h91
  have h94 : s9 = x2 := h93
  rw [h92, h94]
  show lx_W p l e s m args below meth c D cA aX aM cells slots Q 1234 (ly_lv b aX aM i) [.int v] x2 σm
  refine ly_m C (by decide +kernel) ?_
  refine lx_callM (N := m_X11_on) (d := 4) (As := []) (rest := [.int v]) (n := 0) C (by decide +kernel) lz_171 mk_X11_on rfl rfl (by decide +kernel) rfl (fun _ => rfl) (Nat.le_of_ble_eq_true rfl) (by decide) hcs (FC_X11_on (Nat.le_refl _) fm) (fun r s9 h9 => ?_)
  obtain ⟨v9, rfl, h91, h93⟩ := h9
  have h92 : v9 = v := h91
  have h94 : s9 = m2 := h93
  rw [h92, h94]
  show lx_W p l e s m args below meth c D cA aX aM cells slots Q 1238 (ly_lv b aX aM i) [.int v, .int v] x2 m2
  refine ly_eqI (off := 28) (tgt := 1266) C (by decide +kernel) (by decide) ?_
  exact k
set_option maxHeartbeats 4000000 in
theorem lz_case37 {p : Program} {l : Launch} {e : Env} {s : State} {m : MethodId} {below : List Frame} {meth : Method} {c : Code} {b L : Nat} {xs : Nat → Int32} {D : va_G} {cA : Nat → ClassId} {aX aM : Nat → Nat} {cells slots : Nat} {Q : State → Prop} {args : Array Value} {i : Nat} {σx σm x2 m2 : sw_St} {v : Int32} (C : lx_C l p s m meth c args D cA aX aM) (hX : va_X b L xs s s.heap) (hbl : b < s.heap.size) (hL : L ≤ 3072) (hi : i + 6 ≤ L) (hcs : cells ≤ 600000 ∧ slots ≤ 7302250) (fx : F_X10_status σx (xs (i + 1)) = some (v, x2)) (fm : F_X11_status σm (xs (i + 1)) = some (v, m2)) (k : lx_W p l e s m args below meth c D cA aX aM cells slots Q 1266 (ly_lv b aX aM i) [] x2 m2) : lx_W p l e s m args below meth c D cA aX aM cells slots Q 1243 (ly_lv b aX aM i) [] σx σm := by
  refine ly_x C (by decide +kernel) ?_
  refine ly_arg (j := 1) (jj := 1) C hX hbl hL hi (by decide) (by decide) (by decide +kernel) (by decide +kernel) (by decide +kernel) (by decide +kernel) (by decide +kernel) ?_
  refine lx_callX (N := m_X10_status) (d := 0) (As := [.int (xs (i + 1))]) (rest := []) (n := 1) C (by decide +kernel) lz_172 mk_X10_status rfl rfl (by decide +kernel) rfl (fun _ => rfl) (by decide) (by decide) hcs (FC_X10_status (Nat.le_refl _) fx) (fun r s9 h9 => ?_)
  obtain ⟨v9, rfl, h91, h93⟩ := h9
  have h92 : v9 = v := h91
  have h94 : s9 = x2 := h93
  rw [h92, h94]
  show lx_W p l e s m args below meth c D cA aX aM cells slots Q 1252 (ly_lv b aX aM i) [.int v] x2 σm
  refine ly_m C (by decide +kernel) ?_
  refine ly_arg (j := 1) (jj := 1) C hX hbl hL hi (by decide) (by decide) (by decide +kernel) (by decide +kernel) (by decide +kernel) (by decide +kernel) (by decide +kernel) ?_
  refine lx_callM (N := m_X11_status) (d := 1) (As := [.int (xs (i + 1))]) (rest := [.int v]) (n := 1) C (by decide +kernel) lz_175 mk_X11_status rfl rfl (by decide +kernel) rfl (fun _ => rfl) (Nat.le_of_ble_eq_true rfl) (by decide) hcs (FC_X11_status (Nat.le_refl _) fm) (fun r s9 h9 => ?_)
  obtain ⟨v9, rfl, h91, h93⟩ := h9
  have h92 : v9 = v := h91
  have h94 : s9 = m2 := h93
  rw [h92, h94]
  show lx_W p l e s m args below meth c D cA aX aM cells slots Q 1261 (ly_lv b aX aM i) [.int v, .int v] x2 m2
  refine ly_eqI (off := 5) (tgt := 1266) C (by decide +kernel) (by decide) ?_
  exact k

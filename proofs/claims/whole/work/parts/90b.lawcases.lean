set_option maxHeartbeats 4000000 in
theorem lz_case10 {p : Program} {l : Launch} {e : Env} {s : State} {m : MethodId} {below : List Frame} {meth : Method} {c : Code} {b L : Nat} {xs : Nat → Int32} {D : va_G} {cA : Nat → ClassId} {aX aM : Nat → Nat} {cells slots : Nat} {Q : State → Prop} {args : Array Value} {i : Nat} {σx σm x2 m2 : sw_St} {v : Int32} (C : lx_C l p s m meth c args D cA aX aM) (hX : va_X b L xs s s.heap) (hbl : b < s.heap.size) (hL : L ≤ 3072) (hi : i + 6 ≤ L) (hcs : cells ≤ 600000 ∧ slots ≤ 7302250) (fx : F_X10_strays σx (xs (i + 1)) = some (v, x2)) (fm : F_X11_strays σm (xs (i + 1)) = some (v, m2)) (k : lx_W p l e s m args below meth c D cA aX aM cells slots Q 1266 (ly_lv b aX aM i) [] x2 m2) : lx_W p l e s m args below meth c D cA aX aM cells slots Q 510 (ly_lv b aX aM i) [] σx σm := by
  refine ly_x C (by decide +kernel) ?_
  refine ly_arg (j := 1) (jj := 1) C hX hbl hL hi (by decide) (by decide) (by decide +kernel) (by decide +kernel) (by decide +kernel) (by decide +kernel) (by decide +kernel) ?_
  refine lx_callX (N := m_X10_strays) (d := 6) (As := [.int (xs (i + 1))]) (rest := []) (n := 1) C (by decide +kernel) lz_59 mk_X10_strays rfl rfl (by decide +kernel) rfl (fun _ => rfl) (by decide) (by decide) hcs (FC_X10_strays (Nat.le_refl _) fx) (fun r s9 h9 => ?_)
  obtain ⟨v9, rfl, h91, h93⟩ := h9
  have h92 : v9 = v := h91
  have h94 : s9 = x2 := h93
  rw [h92, h94]
  show lx_W p l e s m args below meth c D cA aX aM cells slots Q 519 (ly_lv b aX aM i) [.int v] x2 σm
  refine ly_m C (by decide +kernel) ?_
  refine ly_arg (j := 1) (jj := 1) C hX hbl hL hi (by decide) (by decide) (by decide +kernel) (by decide +kernel) (by decide +kernel) (by decide +kernel) (by decide +kernel) ?_
  refine lx_callM (N := m_X11_strays) (d := 5) (As := [.int (xs (i + 1))]) (rest := [.int v]) (n := 1) C (by decide +kernel) lz_62 mk_X11_strays rfl rfl (by decide +kernel) rfl (fun _ => rfl) (Nat.le_of_ble_eq_true rfl) (by decide) hcs (FC_X11_strays (Nat.le_refl _) fm) (fun r s9 h9 => ?_)
  obtain ⟨v9, rfl, h91, h93⟩ := h9
  have h92 : v9 = v := h91
  have h94 : s9 = m2 := h93
  rw [h92, h94]
  show lx_W p l e s m args below meth c D cA aX aM cells slots Q 528 (ly_lv b aX aM i) [.int v, .int v] x2 m2
  refine ly_eqI (off := 738) (tgt := 1266) C (by decide +kernel) (by decide) ?_
  exact k
set_option maxHeartbeats 4000000 in
theorem lz_case11 {p : Program} {l : Launch} {e : Env} {s : State} {m : MethodId} {below : List Frame} {meth : Method} {c : Code} {b L : Nat} {xs : Nat → Int32} {D : va_G} {cA : Nat → ClassId} {aX aM : Nat → Nat} {cells slots : Nat} {Q : State → Prop} {args : Array Value} {i : Nat} {σx σm x2 m2 : sw_St} {v : Int32} (C : lx_C l p s m meth c args D cA aX aM) (hX : va_X b L xs s s.heap) (hbl : b < s.heap.size) (hL : L ≤ 3072) (hi : i + 6 ≤ L) (hcs : cells ≤ 600000 ∧ slots ≤ 7302250) (fx : F_X10_brings σx (xs (i + 1)) = some (v, x2)) (fm : F_X11_brings σm (xs (i + 1)) = some (v, m2)) (k : lx_W p l e s m args below meth c D cA aX aM cells slots Q 1266 (ly_lv b aX aM i) [] x2 m2) : lx_W p l e s m args below meth c D cA aX aM cells slots Q 533 (ly_lv b aX aM i) [] σx σm := by
  refine ly_x C (by decide +kernel) ?_
  refine ly_arg (j := 1) (jj := 1) C hX hbl hL hi (by decide) (by decide) (by decide +kernel) (by decide +kernel) (by decide +kernel) (by decide +kernel) (by decide +kernel) ?_
  refine lx_callX (N := m_X10_brings) (d := 4) (As := [.int (xs (i + 1))]) (rest := []) (n := 1) C (by decide +kernel) lz_63 mk_X10_brings rfl rfl (by decide +kernel) rfl (fun _ => rfl) (by decide) (by decide) hcs (FC_X10_brings (Nat.le_refl _) fx) (fun r s9 h9 => ?_)
  obtain ⟨v9, rfl, h91, h93⟩ := h9
  have h92 : v9 = v := h91
  have h94 : s9 = x2 := h93
  rw [h92, h94]
  show lx_W p l e s m args below meth c D cA aX aM cells slots Q 542 (ly_lv b aX aM i) [.int v] x2 σm
  refine ly_m C (by decide +kernel) ?_
  refine ly_arg (j := 1) (jj := 1) C hX hbl hL hi (by decide) (by decide) (by decide +kernel) (by decide +kernel) (by decide +kernel) (by decide +kernel) (by decide +kernel) ?_
  refine lx_callM (N := m_X11_brings) (d := 4) (As := [.int (xs (i + 1))]) (rest := [.int v]) (n := 1) C (by decide +kernel) lz_66 mk_X11_brings rfl rfl (by decide +kernel) rfl (fun _ => rfl) (Nat.le_of_ble_eq_true rfl) (by decide) hcs (FC_X11_brings (Nat.le_refl _) fm) (fun r s9 h9 => ?_)
  obtain ⟨v9, rfl, h91, h93⟩ := h9
  have h92 : v9 = v := h91
  have h94 : s9 = m2 := h93
  rw [h92, h94]
  show lx_W p l e s m args below meth c D cA aX aM cells slots Q 551 (ly_lv b aX aM i) [.int v, .int v] x2 m2
  refine ly_eqI (off := 715) (tgt := 1266) C (by decide +kernel) (by decide) ?_
  exact k
set_option maxHeartbeats 4000000 in
theorem lz_case12 {p : Program} {l : Launch} {e : Env} {s : State} {m : MethodId} {below : List Frame} {meth : Method} {c : Code} {b L : Nat} {xs : Nat → Int32} {D : va_G} {cA : Nat → ClassId} {aX aM : Nat → Nat} {cells slots : Nat} {Q : State → Prop} {args : Array Value} {i : Nat} {σx σm x2 m2 : sw_St} {v : Int32} (C : lx_C l p s m meth c args D cA aX aM) (hX : va_X b L xs s s.heap) (hbl : b < s.heap.size) (hL : L ≤ 3072) (hi : i + 6 ≤ L) (hcs : cells ≤ 600000 ∧ slots ≤ 7302250) (fx : F_X10_kept σx (xs (i + 1)) (xs (i + 2)) = some (v, x2)) (fm : F_X11_kept σm (xs (i + 1)) (xs (i + 2)) = some (v, m2)) (k : lx_W p l e s m args below meth c D cA aX aM cells slots Q 1266 (ly_lv b aX aM i) [] x2 m2) : lx_W p l e s m args below meth c D cA aX aM cells slots Q 556 (ly_lv b aX aM i) [] σx σm := by
  refine ly_x C (by decide +kernel) ?_
  refine ly_arg (j := 1) (jj := 1) C hX hbl hL hi (by decide) (by decide) (by decide +kernel) (by decide +kernel) (by decide +kernel) (by decide +kernel) (by decide +kernel) ?_
  refine ly_arg (j := 2) (jj := 2) C hX hbl hL hi (by decide) (by decide) (by decide +kernel) (by decide +kernel) (by decide +kernel) (by decide +kernel) (by decide +kernel) ?_
  refine lx_callX (N := m_X10_kept) (d := 1) (As := [.int (xs (i + 1)), .int (xs (i + 2))]) (rest := []) (n := 2) C (by decide +kernel) lz_67 mk_X10_kept rfl rfl (by decide +kernel) rfl (fun _ => rfl) (by decide) (by decide) hcs (FC_X10_kept (Nat.le_refl _) fx) (fun r s9 h9 => ?_)
  obtain ⟨v9, rfl, h91, h93⟩ := h9
  have h92 : v9 = v := h91
  have h94 : s9 = x2 := h93
  rw [h92, h94]
  show lx_W p l e s m args below meth c D cA aX aM cells slots Q 570 (ly_lv b aX aM i) [.int v] x2 σm
  refine ly_m C (by decide +kernel) ?_
  refine ly_arg (j := 1) (jj := 1) C hX hbl hL hi (by decide) (by decide) (by decide +kernel) (by decide +kernel) (by decide +kernel) (by decide +kernel) (by decide +kernel) ?_
  refine ly_arg (j := 2) (jj := 2) C hX hbl hL hi (by decide) (by decide) (by decide +kernel) (by decide +kernel) (by decide +kernel) (by decide +kernel) (by decide +kernel) ?_
  refine lx_callM (N := m_X11_kept) (d := 1) (As := [.int (xs (i + 1)), .int (xs (i + 2))]) (rest := [.int v]) (n := 2) C (by decide +kernel) lz_70 mk_X11_kept rfl rfl (by decide +kernel) rfl (fun _ => rfl) (Nat.le_of_ble_eq_true rfl) (by decide) hcs (FC_X11_kept (Nat.le_refl _) fm) (fun r s9 h9 => ?_)
  obtain ⟨v9, rfl, h91, h93⟩ := h9
  have h92 : v9 = v := h91
  have h94 : s9 = m2 := h93
  rw [h92, h94]
  show lx_W p l e s m args below meth c D cA aX aM cells slots Q 584 (ly_lv b aX aM i) [.int v, .int v] x2 m2
  refine ly_eqI (off := 682) (tgt := 1266) C (by decide +kernel) (by decide) ?_
  exact k
set_option maxHeartbeats 4000000 in
theorem lz_case13 {p : Program} {l : Launch} {e : Env} {s : State} {m : MethodId} {below : List Frame} {meth : Method} {c : Code} {b L : Nat} {xs : Nat → Int32} {D : va_G} {cA : Nat → ClassId} {aX aM : Nat → Nat} {cells slots : Nat} {Q : State → Prop} {args : Array Value} {i : Nat} {σx σm x2 m2 : sw_St} {v : Int32} (C : lx_C l p s m meth c args D cA aX aM) (hX : va_X b L xs s s.heap) (hbl : b < s.heap.size) (hL : L ≤ 3072) (hi : i + 6 ≤ L) (hcs : cells ≤ 600000 ∧ slots ≤ 7302250) (fx : F_X10_later σx (xs (i + 1)) (xs (i + 2)) (xs (i + 3)) = some (v, x2)) (fm : F_X11_later σm (xs (i + 1)) (xs (i + 2)) (xs (i + 3)) = some (v, m2)) (k : lx_W p l e s m args below meth c D cA aX aM cells slots Q 1266 (ly_lv b aX aM i) [] x2 m2) : lx_W p l e s m args below meth c D cA aX aM cells slots Q 589 (ly_lv b aX aM i) [] σx σm := by
  refine ly_x C (by decide +kernel) ?_
  refine ly_arg (j := 1) (jj := 1) C hX hbl hL hi (by decide) (by decide) (by decide +kernel) (by decide +kernel) (by decide +kernel) (by decide +kernel) (by decide +kernel) ?_
  refine ly_arg (j := 2) (jj := 2) C hX hbl hL hi (by decide) (by decide) (by decide +kernel) (by decide +kernel) (by decide +kernel) (by decide +kernel) (by decide +kernel) ?_
  refine ly_arg (j := 3) (jj := 3) C hX hbl hL hi (by decide) (by decide) (by decide +kernel) (by decide +kernel) (by decide +kernel) (by decide +kernel) (by decide +kernel) ?_
  refine lx_callX (N := m_X10_later) (d := 7) (As := [.int (xs (i + 1)), .int (xs (i + 2)), .int (xs (i + 3))]) (rest := []) (n := 3) C (by decide +kernel) lz_71 mk_X10_later rfl rfl (by decide +kernel) rfl (fun _ => rfl) (by decide) (by decide) hcs (FC_X10_later (Nat.le_refl _) fx) (fun r s9 h9 => ?_)
  obtain ⟨v9, rfl, h91, h93⟩ := h9
  have h92 : v9 = v := h91
  have h94 : s9 = x2 := h93
  rw [h92, h94]
  show lx_W p l e s m args below meth c D cA aX aM cells slots Q 608 (ly_lv b aX aM i) [.int v] x2 σm
  refine ly_m C (by decide +kernel) ?_
  refine ly_arg (j := 1) (jj := 1) C hX hbl hL hi (by decide) (by decide) (by decide +kernel) (by decide +kernel) (by decide +kernel) (by decide +kernel) (by decide +kernel) ?_
  refine ly_arg (j := 2) (jj := 2) C hX hbl hL hi (by decide) (by decide) (by decide +kernel) (by decide +kernel) (by decide +kernel) (by decide +kernel) (by decide +kernel) ?_
  refine ly_arg (j := 3) (jj := 3) C hX hbl hL hi (by decide) (by decide) (by decide +kernel) (by decide +kernel) (by decide +kernel) (by decide +kernel) (by decide +kernel) ?_
  refine lx_callM (N := m_X11_later) (d := 7) (As := [.int (xs (i + 1)), .int (xs (i + 2)), .int (xs (i + 3))]) (rest := [.int v]) (n := 3) C (by decide +kernel) lz_74 mk_X11_later rfl rfl (by decide +kernel) rfl (fun _ => rfl) (Nat.le_of_ble_eq_true rfl) (by decide) hcs (FC_X11_later (Nat.le_refl _) fm) (fun r s9 h9 => ?_)
  obtain ⟨v9, rfl, h91, h93⟩ := h9
  have h92 : v9 = v := h91
  have h94 : s9 = m2 := h93
  rw [h92, h94]
  show lx_W p l e s m args below meth c D cA aX aM cells slots Q 627 (ly_lv b aX aM i) [.int v, .int v] x2 m2
  refine ly_eqI (off := 639) (tgt := 1266) C (by decide +kernel) (by decide) ?_
  exact k
set_option maxHeartbeats 4000000 in
theorem lz_case14 {p : Program} {l : Launch} {e : Env} {s : State} {m : MethodId} {below : List Frame} {meth : Method} {c : Code} {b L : Nat} {xs : Nat → Int32} {D : va_G} {cA : Nat → ClassId} {aX aM : Nat → Nat} {cells slots : Nat} {Q : State → Prop} {args : Array Value} {i : Nat} {σx σm x2 m2 : sw_St} {v : Int32} (C : lx_C l p s m meth c args D cA aX aM) (hX : va_X b L xs s s.heap) (hbl : b < s.heap.size) (hL : L ≤ 3072) (hi : i + 6 ≤ L) (hcs : cells ≤ 600000 ∧ slots ≤ 7302250) (fx : F_X10_home σx (xs (i + 1)) = some (v, x2)) (fm : F_X11_home σm (xs (i + 1)) = some (v, m2)) (k : lx_W p l e s m args below meth c D cA aX aM cells slots Q 1266 (ly_lv b aX aM i) [] x2 m2) : lx_W p l e s m args below meth c D cA aX aM cells slots Q 632 (ly_lv b aX aM i) [] σx σm := by
  refine ly_x C (by decide +kernel) ?_
  refine ly_arg (j := 1) (jj := 1) C hX hbl hL hi (by decide) (by decide) (by decide +kernel) (by decide +kernel) (by decide +kernel) (by decide +kernel) (by decide +kernel) ?_
  refine lx_callX (N := m_X10_home) (d := 7) (As := [.int (xs (i + 1))]) (rest := []) (n := 1) C (by decide +kernel) lz_75 mk_X10_home rfl rfl (by decide +kernel) rfl (fun _ => rfl) (by decide) (by decide) hcs (FC_X10_home (Nat.le_refl _) fx) (fun r s9 h9 => ?_)
  obtain ⟨v9, rfl, h91, h93⟩ := h9
  have h92 : v9 = v := h91
  have h94 : s9 = x2 := h93
  rw [h92, h94]
  show lx_W p l e s m args below meth c D cA aX aM cells slots Q 641 (ly_lv b aX aM i) [.int v] x2 σm
  refine ly_m C (by decide +kernel) ?_
  refine ly_arg (j := 1) (jj := 1) C hX hbl hL hi (by decide) (by decide) (by decide +kernel) (by decide +kernel) (by decide +kernel) (by decide +kernel) (by decide +kernel) ?_
  refine lx_callM (N := m_X11_home) (d := 7) (As := [.int (xs (i + 1))]) (rest := [.int v]) (n := 1) C (by decide +kernel) lz_78 mk_X11_home rfl rfl (by decide +kernel) rfl (fun _ => rfl) (Nat.le_of_ble_eq_true rfl) (by decide) hcs (FC_X11_home (Nat.le_refl _) fm) (fun r s9 h9 => ?_)
  obtain ⟨v9, rfl, h91, h93⟩ := h9
  have h92 : v9 = v := h91
  have h94 : s9 = m2 := h93
  rw [h92, h94]
  show lx_W p l e s m args below meth c D cA aX aM cells slots Q 650 (ly_lv b aX aM i) [.int v, .int v] x2 m2
  refine ly_eqI (off := 616) (tgt := 1266) C (by decide +kernel) (by decide) ?_
  exact k
set_option maxHeartbeats 4000000 in
theorem lz_case15 {p : Program} {l : Launch} {e : Env} {s : State} {m : MethodId} {below : List Frame} {meth : Method} {c : Code} {b L : Nat} {xs : Nat → Int32} {D : va_G} {cA : Nat → ClassId} {aX aM : Nat → Nat} {cells slots : Nat} {Q : State → Prop} {args : Array Value} {i : Nat} {σx σm x2 m2 : sw_St} {v : Int32} (C : lx_C l p s m meth c args D cA aX aM) (hX : va_X b L xs s s.heap) (hbl : b < s.heap.size) (hL : L ≤ 3072) (hi : i + 6 ≤ L) (hcs : cells ≤ 600000 ∧ slots ≤ 7302250) (fx : F_X10_gaps σx (xs (i + 1)) (xs (i + 2)) (xs (i + 3)) = some (v, x2)) (fm : F_X11_gaps σm (xs (i + 1)) (xs (i + 2)) (xs (i + 3)) = some (v, m2)) (k : lx_W p l e s m args below meth c D cA aX aM cells slots Q 1266 (ly_lv b aX aM i) [] x2 m2) : lx_W p l e s m args below meth c D cA aX aM cells slots Q 655 (ly_lv b aX aM i) [] σx σm := by
  refine ly_x C (by decide +kernel) ?_
  refine ly_arg (j := 1) (jj := 1) C hX hbl hL hi (by decide) (by decide) (by decide +kernel) (by decide +kernel) (by decide +kernel) (by decide +kernel) (by decide +kernel) ?_
  refine ly_arg (j := 2) (jj := 2) C hX hbl hL hi (by decide) (by decide) (by decide +kernel) (by decide +kernel) (by decide +kernel) (by decide +kernel) (by decide +kernel) ?_
  refine ly_arg (j := 3) (jj := 3) C hX hbl hL hi (by decide) (by decide) (by decide +kernel) (by decide +kernel) (by decide +kernel) (by decide +kernel) (by decide +kernel) ?_
  refine lx_callX (N := m_X10_gaps) (d := 127) (As := [.int (xs (i + 1)), .int (xs (i + 2)), .int (xs (i + 3))]) (rest := []) (n := 3) C (by decide +kernel) lz_79 mk_X10_gaps rfl rfl (by decide +kernel) rfl (fun _ => rfl) (by decide) (by decide) hcs (FC_X10_gaps (Nat.le_refl _) fx) (fun r s9 h9 => ?_)
  obtain ⟨v9, rfl, h91, h93⟩ := h9
  have h92 : v9 = v := h91
  have h94 : s9 = x2 := h93
  rw [h92, h94]
  show lx_W p l e s m args below meth c D cA aX aM cells slots Q 674 (ly_lv b aX aM i) [.int v] x2 σm
  refine ly_m C (by decide +kernel) ?_
  refine ly_arg (j := 1) (jj := 1) C hX hbl hL hi (by decide) (by decide) (by decide +kernel) (by decide +kernel) (by decide +kernel) (by decide +kernel) (by decide +kernel) ?_
  refine ly_arg (j := 2) (jj := 2) C hX hbl hL hi (by decide) (by decide) (by decide +kernel) (by decide +kernel) (by decide +kernel) (by decide +kernel) (by decide +kernel) ?_
  refine ly_arg (j := 3) (jj := 3) C hX hbl hL hi (by decide) (by decide) (by decide +kernel) (by decide +kernel) (by decide +kernel) (by decide +kernel) (by decide +kernel) ?_
  refine lx_callM (N := m_X11_gaps) (d := 7) (As := [.int (xs (i + 1)), .int (xs (i + 2)), .int (xs (i + 3))]) (rest := [.int v]) (n := 3) C (by decide +kernel) lz_82 mk_X11_gaps rfl rfl (by decide +kernel) rfl (fun _ => rfl) (Nat.le_of_ble_eq_true rfl) (by decide) hcs (FC_X11_gaps (Nat.le_refl _) fm) (fun r s9 h9 => ?_)
  obtain ⟨v9, rfl, h91, h93⟩ := h9
  have h92 : v9 = v := h91
  have h94 : s9 = m2 := h93
  rw [h92, h94]
  show lx_W p l e s m args below meth c D cA aX aM cells slots Q 693 (ly_lv b aX aM i) [.int v, .int v] x2 m2
  refine ly_eqI (off := 573) (tgt := 1266) C (by decide +kernel) (by decide) ?_
  exact k
set_option maxHeartbeats 4000000 in
theorem lz_case16 {p : Program} {l : Launch} {e : Env} {s : State} {m : MethodId} {below : List Frame} {meth : Method} {c : Code} {b L : Nat} {xs : Nat → Int32} {D : va_G} {cA : Nat → ClassId} {aX aM : Nat → Nat} {cells slots : Nat} {Q : State → Prop} {args : Array Value} {i : Nat} {σx σm x2 m2 : sw_St} {v : Int32} (C : lx_C l p s m meth c args D cA aX aM) (hX : va_X b L xs s s.heap) (hbl : b < s.heap.size) (hL : L ≤ 3072) (hi : i + 6 ≤ L) (hcs : cells ≤ 600000 ∧ slots ≤ 7302250) (fx : F_X10_rumour σx (xs (i + 1)) (xs (i + 2)) = some (v, x2)) (fm : F_X11_rumour σm (xs (i + 1)) (xs (i + 2)) = some (v, m2)) (k : lx_W p l e s m args below meth c D cA aX aM cells slots Q 1266 (ly_lv b aX aM i) [] x2 m2) : lx_W p l e s m args below meth c D cA aX aM cells slots Q 698 (ly_lv b aX aM i) [] σx σm := by
  refine ly_x C (by decide +kernel) ?_
  refine ly_arg (j := 1) (jj := 1) C hX hbl hL hi (by decide) (by decide) (by decide +kernel) (by decide +kernel) (by decide +kernel) (by decide +kernel) (by decide +kernel) ?_
  refine ly_arg (j := 2) (jj := 2) C hX hbl hL hi (by decide) (by decide) (by decide +kernel) (by decide +kernel) (by decide +kernel) (by decide +kernel) (by decide +kernel) ?_
  refine lx_callX (N := m_X10_rumour) (d := 7) (As := [.int (xs (i + 1)), .int (xs (i + 2))]) (rest := []) (n := 2) C (by decide +kernel) lz_83 mk_X10_rumour rfl rfl (by decide +kernel) rfl (fun _ => rfl) (by decide) (by decide) hcs (FC_X10_rumour (Nat.le_refl _) fx) (fun r s9 h9 => ?_)
  obtain ⟨v9, rfl, h91, h93⟩ := h9
  have h92 : v9 = v := h91
  have h94 : s9 = x2 := h93
  rw [h92, h94]
  show lx_W p l e s m args below meth c D cA aX aM cells slots Q 712 (ly_lv b aX aM i) [.int v] x2 σm
  refine ly_m C (by decide +kernel) ?_
  refine ly_arg (j := 1) (jj := 1) C hX hbl hL hi (by decide) (by decide) (by decide +kernel) (by decide +kernel) (by decide +kernel) (by decide +kernel) (by decide +kernel) ?_
  refine ly_arg (j := 2) (jj := 2) C hX hbl hL hi (by decide) (by decide) (by decide +kernel) (by decide +kernel) (by decide +kernel) (by decide +kernel) (by decide +kernel) ?_
  refine lx_callM (N := m_X11_rumour) (d := 8) (As := [.int (xs (i + 1)), .int (xs (i + 2))]) (rest := [.int v]) (n := 2) C (by decide +kernel) lz_86 mk_X11_rumour rfl rfl (by decide +kernel) rfl (fun _ => rfl) (Nat.le_of_ble_eq_true rfl) (by decide) hcs (FC_X11_rumour (Nat.le_refl _) fm) (fun r s9 h9 => ?_)
  obtain ⟨v9, rfl, h91, h93⟩ := h9
  have h92 : v9 = v := h91
  have h94 : s9 = m2 := h93
  rw [h92, h94]
  show lx_W p l e s m args below meth c D cA aX aM cells slots Q 726 (ly_lv b aX aM i) [.int v, .int v] x2 m2
  refine ly_eqI (off := 540) (tgt := 1266) C (by decide +kernel) (by decide) ?_
  exact k
set_option maxHeartbeats 4000000 in
theorem lz_case17 {p : Program} {l : Launch} {e : Env} {s : State} {m : MethodId} {below : List Frame} {meth : Method} {c : Code} {b L : Nat} {xs : Nat → Int32} {D : va_G} {cA : Nat → ClassId} {aX aM : Nat → Nat} {cells slots : Nat} {Q : State → Prop} {args : Array Value} {i : Nat} {σx σm x2 m2 : sw_St} {v : Int32} (C : lx_C l p s m meth c args D cA aX aM) (hX : va_X b L xs s s.heap) (hbl : b < s.heap.size) (hL : L ≤ 3072) (hi : i + 6 ≤ L) (hcs : cells ≤ 600000 ∧ slots ≤ 7302250) (fx : F_X10_way σx (xs (i + 1)) (xs (i + 2)) = some (v, x2)) (fm : F_X11_way σm (xs (i + 1)) (xs (i + 2)) = some (v, m2)) (k : lx_W p l e s m args below meth c D cA aX aM cells slots Q 1266 (ly_lv b aX aM i) [] x2 m2) : lx_W p l e s m args below meth c D cA aX aM cells slots Q 731 (ly_lv b aX aM i) [] σx σm := by
  refine ly_x C (by decide +kernel) ?_
  refine ly_arg (j := 1) (jj := 1) C hX hbl hL hi (by decide) (by decide) (by decide +kernel) (by decide +kernel) (by decide +kernel) (by decide +kernel) (by decide +kernel) ?_
  refine ly_arg (j := 2) (jj := 2) C hX hbl hL hi (by decide) (by decide) (by decide +kernel) (by decide +kernel) (by decide +kernel) (by decide +kernel) (by decide +kernel) ?_
  refine lx_callX (N := m_X10_way) (d := 2) (As := [.int (xs (i + 1)), .int (xs (i + 2))]) (rest := []) (n := 2) C (by decide +kernel) lz_87 mk_X10_way rfl rfl (by decide +kernel) rfl (fun _ => rfl) (by decide) (by decide) hcs (FC_X10_way (Nat.le_refl _) fx) (fun r s9 h9 => ?_)
  obtain ⟨v9, rfl, h91, h93⟩ := h9
  have h92 : v9 = v := h91
  have h94 : s9 = x2 := h93
  rw [h92, h94]
  show lx_W p l e s m args below meth c D cA aX aM cells slots Q 745 (ly_lv b aX aM i) [.int v] x2 σm
  refine ly_m C (by decide +kernel) ?_
  refine ly_arg (j := 1) (jj := 1) C hX hbl hL hi (by decide) (by decide) (by decide +kernel) (by decide +kernel) (by decide +kernel) (by decide +kernel) (by decide +kernel) ?_
  refine ly_arg (j := 2) (jj := 2) C hX hbl hL hi (by decide) (by decide) (by decide +kernel) (by decide +kernel) (by decide +kernel) (by decide +kernel) (by decide +kernel) ?_
  refine lx_callM (N := m_X11_way) (d := 2) (As := [.int (xs (i + 1)), .int (xs (i + 2))]) (rest := [.int v]) (n := 2) C (by decide +kernel) lz_90 mk_X11_way rfl rfl (by decide +kernel) rfl (fun _ => rfl) (Nat.le_of_ble_eq_true rfl) (by decide) hcs (FC_X11_way (Nat.le_refl _) fm) (fun r s9 h9 => ?_)
  obtain ⟨v9, rfl, h91, h93⟩ := h9
  have h92 : v9 = v := h91
  have h94 : s9 = m2 := h93
  rw [h92, h94]
  show lx_W p l e s m args below meth c D cA aX aM cells slots Q 759 (ly_lv b aX aM i) [.int v, .int v] x2 m2
  refine ly_eqI (off := 507) (tgt := 1266) C (by decide +kernel) (by decide) ?_
  exact k
set_option maxHeartbeats 4000000 in
theorem lz_case18 {p : Program} {l : Launch} {e : Env} {s : State} {m : MethodId} {below : List Frame} {meth : Method} {c : Code} {b L : Nat} {xs : Nat → Int32} {D : va_G} {cA : Nat → ClassId} {aX aM : Nat → Nat} {cells slots : Nat} {Q : State → Prop} {args : Array Value} {i : Nat} {σx σm x2 m2 : sw_St} {v : Int32} (C : lx_C l p s m meth c args D cA aX aM) (hX : va_X b L xs s s.heap) (hbl : b < s.heap.size) (hL : L ≤ 3072) (hi : i + 6 ≤ L) (hcs : cells ≤ 600000 ∧ slots ≤ 7302250) (fx : F_X10_waits σx (xs (i + 1)) (xs (i + 2)) (xs (i + 3)) = some (v, x2)) (fm : F_X11_waits σm (xs (i + 1)) (xs (i + 2)) (xs (i + 3)) = some (v, m2)) (k : lx_W p l e s m args below meth c D cA aX aM cells slots Q 1266 (ly_lv b aX aM i) [] x2 m2) : lx_W p l e s m args below meth c D cA aX aM cells slots Q 764 (ly_lv b aX aM i) [] σx σm := by
  refine ly_x C (by decide +kernel) ?_
  refine ly_arg (j := 1) (jj := 1) C hX hbl hL hi (by decide) (by decide) (by decide +kernel) (by decide +kernel) (by decide +kernel) (by decide +kernel) (by decide +kernel) ?_
  refine ly_arg (j := 2) (jj := 2) C hX hbl hL hi (by decide) (by decide) (by decide +kernel) (by decide +kernel) (by decide +kernel) (by decide +kernel) (by decide +kernel) ?_
  refine ly_arg (j := 3) (jj := 3) C hX hbl hL hi (by decide) (by decide) (by decide +kernel) (by decide +kernel) (by decide +kernel) (by decide +kernel) (by decide +kernel) ?_
  refine lx_callX (N := m_X10_waits) (d := 7) (As := [.int (xs (i + 1)), .int (xs (i + 2)), .int (xs (i + 3))]) (rest := []) (n := 3) C (by decide +kernel) lz_91 mk_X10_waits rfl rfl (by decide +kernel) rfl (fun _ => rfl) (by decide) (by decide) hcs (FC_X10_waits (Nat.le_refl _) fx) (fun r s9 h9 => ?_)
  obtain ⟨v9, rfl, h91, h93⟩ := h9
  have h92 : v9 = v := h91
  have h94 : s9 = x2 := h93
  rw [h92, h94]
  show lx_W p l e s m args below meth c D cA aX aM cells slots Q 783 (ly_lv b aX aM i) [.int v] x2 σm
  refine ly_m C (by decide +kernel) ?_
  refine ly_arg (j := 1) (jj := 1) C hX hbl hL hi (by decide) (by decide) (by decide +kernel) (by decide +kernel) (by decide +kernel) (by decide +kernel) (by decide +kernel) ?_
  refine ly_arg (j := 2) (jj := 2) C hX hbl hL hi (by decide) (by decide) (by decide +kernel) (by decide +kernel) (by decide +kernel) (by decide +kernel) (by decide +kernel) ?_
  refine ly_arg (j := 3) (jj := 3) C hX hbl hL hi (by decide) (by decide) (by decide +kernel) (by decide +kernel) (by decide +kernel) (by decide +kernel) (by decide +kernel) ?_
  refine lx_callM (N := m_X11_waits) (d := 7) (As := [.int (xs (i + 1)), .int (xs (i + 2)), .int (xs (i + 3))]) (rest := [.int v]) (n := 3) C (by decide +kernel) lz_94 mk_X11_waits rfl rfl (by decide +kernel) rfl (fun _ => rfl) (Nat.le_of_ble_eq_true rfl) (by decide) hcs (FC_X11_waits (Nat.le_refl _) fm) (fun r s9 h9 => ?_)
  obtain ⟨v9, rfl, h91, h93⟩ := h9
  have h92 : v9 = v := h91
  have h94 : s9 = m2 := h93
  rw [h92, h94]
  show lx_W p l e s m args below meth c D cA aX aM cells slots Q 802 (ly_lv b aX aM i) [.int v, .int v] x2 m2
  refine ly_eqI (off := 464) (tgt := 1266) C (by decide +kernel) (by decide) ?_
  exact k
set_option maxHeartbeats 4000000 in
theorem lz_case19 {p : Program} {l : Launch} {e : Env} {s : State} {m : MethodId} {below : List Frame} {meth : Method} {c : Code} {b L : Nat} {xs : Nat → Int32} {D : va_G} {cA : Nat → ClassId} {aX aM : Nat → Nat} {cells slots : Nat} {Q : State → Prop} {args : Array Value} {i : Nat} {σx σm x2 m2 : sw_St} {v : Int32} (C : lx_C l p s m meth c args D cA aX aM) (hX : va_X b L xs s s.heap) (hbl : b < s.heap.size) (hL : L ≤ 3072) (hi : i + 6 ≤ L) (hcs : cells ≤ 600000 ∧ slots ≤ 7302250) (fx : F_X10_coat σx (xs (i + 1)) = some (v, x2)) (fm : F_X11_coat σm (xs (i + 1)) = some (v, m2)) (k : lx_W p l e s m args below meth c D cA aX aM cells slots Q 1266 (ly_lv b aX aM i) [] x2 m2) : lx_W p l e s m args below meth c D cA aX aM cells slots Q 807 (ly_lv b aX aM i) [] σx σm := by
  refine ly_x C (by decide +kernel) ?_
  refine ly_arg (j := 1) (jj := 1) C hX hbl hL hi (by decide) (by decide) (by decide +kernel) (by decide +kernel) (by decide +kernel) (by decide +kernel) (by decide +kernel) ?_
  refine lx_callX (N := m_X10_coat) (d := 2) (As := [.int (xs (i + 1))]) (rest := []) (n := 1) C (by decide +kernel) lz_95 mk_X10_coat rfl rfl (by decide +kernel) rfl (fun _ => rfl) (by decide) (by decide) hcs (FC_X10_coat (Nat.le_refl _) fx) (fun r s9 h9 => ?_)
  obtain ⟨v9, rfl, h91, h93⟩ := h9
  have h92 : v9 = v := h91
  have h94 : s9 = x2 := h93
  rw [h92, h94]
  show lx_W p l e s m args below meth c D cA aX aM cells slots Q 816 (ly_lv b aX aM i) [.int v] x2 σm
  refine ly_m C (by decide +kernel) ?_
  refine ly_arg (j := 1) (jj := 1) C hX hbl hL hi (by decide) (by decide) (by decide +kernel) (by decide +kernel) (by decide +kernel) (by decide +kernel) (by decide +kernel) ?_
  refine lx_callM (N := m_X11_coat) (d := 2) (As := [.int (xs (i + 1))]) (rest := [.int v]) (n := 1) C (by decide +kernel) lz_98 mk_X11_coat rfl rfl (by decide +kernel) rfl (fun _ => rfl) (Nat.le_of_ble_eq_true rfl) (by decide) hcs (FC_X11_coat (Nat.le_refl _) fm) (fun r s9 h9 => ?_)
  obtain ⟨v9, rfl, h91, h93⟩ := h9
  have h92 : v9 = v := h91
  have h94 : s9 = m2 := h93
  rw [h92, h94]
  show lx_W p l e s m args below meth c D cA aX aM cells slots Q 825 (ly_lv b aX aM i) [.int v, .int v] x2 m2
  refine ly_eqI (off := 441) (tgt := 1266) C (by decide +kernel) (by decide) ?_
  exact k

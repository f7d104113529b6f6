/-! The law's own instructions. -/
section ly_rules
variable {p : Program} {l : Launch} {e : Env} {s : State} {m : MethodId} {below : List Frame} {meth : Method} {c : Code} {b L : Nat} {xs : Nat → Int32} {D : va_G} {cA : Nat → ClassId} {aX aM : Nat → Nat} {cells slots : Nat} {Q : State → Prop} {args : Array Value} {pc i : Nat} {st : List Value} {σx σm : sw_St} {lv : List (Nat × Value)}
def ly_lv (b : Nat) (aX aM : Nat → Nat) (i : Nat) : List (Nat × Value) := [(0, .ref b), (1, .ref (aX 0)), (2, .ref (aM 0)), (3, .int (nI i))]
theorem ly_x (C : lx_C l p s m meth c args D cA aX aM) (d0 : decode code pc = .ok (.aload_n 1, 1)) (k : lx_W p l e s m args below meth c D cA aX aM cells slots Q (pc + 1) (ly_lv b aX aM i) (.ref (aX 0) :: st) σx σm) : lx_W p l e s m args below meth c D cA aX aM cells slots Q pc (ly_lv b aX aM i) st σx σm :=
  fun H locs ls h1 h2 h3 h4 hS hl => lv_aload_n C.1 C.2.1 d0 rfl (lv_at hl 1 rfl) (k H locs ls h1 h2 h3 h4 hS hl)
theorem ly_m (C : lx_C l p s m meth c args D cA aX aM) (d0 : decode code pc = .ok (.aload_n 2, 1)) (k : lx_W p l e s m args below meth c D cA aX aM cells slots Q (pc + 1) (ly_lv b aX aM i) (.ref (aM 0) :: st) σx σm) : lx_W p l e s m args below meth c D cA aX aM cells slots Q pc (ly_lv b aX aM i) st σx σm :=
  fun H locs ls h1 h2 h3 h4 hS hl => lv_aload_n C.1 C.2.1 d0 rfl (lv_at hl 2 rfl) (k H locs ls h1 h2 h3 h4 hS hl)
theorem ly_arg {j : Nat} {jj : Int} (C : lx_C l p s m meth c args D cA aX aM) (hX : va_X b L xs s s.heap) (hbl : b < s.heap.size) (hL : L ≤ 3072) (hi : i + 6 ≤ L) (hj6 : j < 6) (hj : Int32.ofInt jj = nI j) (d0 : decode code pc = .ok (.aload_n 0, 1)) (d1 : decode code (pc + 1) = .ok (.iload_n 3, 1)) (d2 : decode code (pc + 2) = .ok (.iconst jj, 1)) (d3 : decode code (pc + 3) = .ok (.iadd, 1)) (d4 : decode code (pc + 4) = .ok (.iaload, 1))
    (k : lx_W p l e s m args below meth c D cA aX aM cells slots Q (pc + 5) (ly_lv b aX aM i) (.int (xs (i + j)) :: st) σx σm) : lx_W p l e s m args below meth c D cA aX aM cells slots Q pc (ly_lv b aX aM i) st σx σm := by
  intro H locs ls h1 h2 h3 h4 hS hl
  have hbA : ¬ (fun q : Nat => s.heap.size ≤ q) b := Nat.not_le.mpr hbl
  have e1 : nI i + Int32.ofInt jj = nI (i + j) := by rw [hj, nI_add]
  refine lv_aload_n C.1 C.2.1 d0 rfl (lv_at hl 0 rfl) ?_
  refine lv_iload_n C.1 C.2.1 d1 rfl (lv_at hl 3 rfl) ?_
  refine lv_iconst C.1 C.2.1 d2 rfl ?_
  refine lv_iadd C.1 C.2.1 d3 ?_
  rw [e1]
  refine va_sld C.1 C.2.1 hX hbl hbA hS (vp_in_nI (by omega) (by omega)) d4 ?_
  rw [nI_clamp (by omega)]
  exact k H locs ls h1 h2 h3 h4 hS hl
theorem ly_eqI {v : Int32} {off : Int} {tgt : Nat} (C : lx_C l p s m meth c args D cA aX aM) (d0 : decode code pc = .ok (.if_icmp .eq off, 3)) (ht : (pc : Int) + off = (tgt : Int)) (k : lx_W p l e s m args below meth c D cA aX aM cells slots Q tgt lv st σx σm) : lx_W p l e s m args below meth c D cA aX aM cells slots Q pc lv (.int v :: .int v :: st) σx σm :=
  fun H locs ls h1 h2 h3 h4 hS hl => lv_icmp_eq C.1 C.2.1 d0 ht (fun _ => k H locs ls h1 h2 h3 h4 hS hl) (fun h => absurd rfl h)
theorem ly_eqL {v : Int64} {off : Int} {tgt : Nat} (C : lx_C l p s m meth c args D cA aX aM) (d0 : decode code pc = .ok (.lcmp, 1)) (d1 : decode code (pc + 1) = .ok (.ifCond .eq off, 3)) (ht : ((pc + 1 : Nat) : Int) + off = (tgt : Int)) (k : lx_W p l e s m args below meth c D cA aX aM cells slots Q tgt lv st σx σm) : lx_W p l e s m args below meth c D cA aX aM cells slots Q pc lv (.long v :: .long v :: st) σx σm :=
  fun H locs ls h1 h2 h3 h4 hS hl => W.lcmp C.1 C.2.1 d0 (lv_if_eq C.1 C.2.1 d1 ht (fun _ => k H locs ls h1 h2 h3 h4 hS hl) (fun h => absurd (by simp [lg_cmp]) h))
theorem ly_goto {off : Int} {tgt : Nat} (C : lx_C l p s m meth c args D cA aX aM) (d0 : decode code pc = .ok (.goto off, 3)) (ht : (pc : Int) + off = (tgt : Int)) (k : lx_W p l e s m args below meth c D cA aX aM cells slots Q tgt lv st σx σm) : lx_W p l e s m args below meth c D cA aX aM cells slots Q pc lv st σx σm :=
  fun H locs ls h1 h2 h3 h4 hS hl => lv_goto C.1 C.2.1 d0 ht (k H locs ls h1 h2 h3 h4 hS hl)
theorem ly_inc {pc : Nat} (C : lx_C l p s m meth c args D cA aX aM) (d0 : decode code pc = .ok (.iinc 3 6, 3)) (k : lx_W p l e s m args below meth c D cA aX aM cells slots Q (pc + 3) (ly_lv b aX aM (i + 6)) st σx σm) : lx_W p l e s m args below meth c D cA aX aM cells slots Q pc (ly_lv b aX aM i) st σx σm := by
  intro H locs ls h1 h2 h3 h4 hS hl
  refine lv_iinc (v := nI (i + 6)) (lv' := [(3, .int (nI (i + 6))), (0, .ref b), (1, .ref (aX 0)), (2, .ref (aM 0))]) C.1 C.2.1 d0 hl (k := 3) rfl (by rw [show Int32.ofInt 6 = nI 6 from by decide, nI_add]) (by decide) rfl (fun ls hl => ?_)
  exact k H locs ls h1 h2 h3 h4 hS (lv_sub hl [1, 2, 3, 0] rfl)
end ly_rules

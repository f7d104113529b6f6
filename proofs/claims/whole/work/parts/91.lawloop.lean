/-! The law's loop, over any relation of the two stores that every call keeps. -/
theorem ll_d33 : decode code 33 = .ok (.tableswitch 1233 0 37 #[167, 230, 253, 266, 289, 312, 355, 378, 411, 444, 477, 500, 523, 556, 599, 622, 665, 698, 731, 774, 797, 820, 864, 877, 900, 933, 956, 989, 1022, 1065, 1088, 1111, 1124, 1147, 1161, 1174, 1197, 1210], 167) := by decide +kernel
theorem ll_tail {p : Program} {l : Launch} {e : Env} {s : State} {m : MethodId} {below : List Frame} {meth : Method} {c : Code} {b : Nat} {D : va_G} {cA : Nat → ClassId} {aX aM : Nat → Nat} {cells slots : Nat} {Q : State → Prop} {args : Array Value} (C : lx_C l p s m meth c args D cA aX aM) {i : Nat} {σx σm : sw_St} (k : lx_W p l e s m args below meth c D cA aX aM cells slots Q 18 (ly_lv b aX aM (i + 6)) [] σx σm) : lx_W p l e s m args below meth c D cA aX aM cells slots Q 1266 (ly_lv b aX aM i) [] σx σm := by
  refine ly_inc C (by decide +kernel) ?_
  refine ly_goto (off := -1251) (tgt := 18) C (by decide +kernel) (by decide) ?_
  exact k
set_option maxHeartbeats 4000000 in
theorem ll_switch {p : Program} {l : Launch} {e : Env} {s : State} {m : MethodId} {below : List Frame} {meth : Method} {c : Code} {b L : Nat} {xs : Nat → Int32} {D : va_G} {cA : Nat → ClassId} {aX aM : Nat → Nat} {cells slots : Nat} {Q : State → Prop} {args : Array Value} (C : lx_C l p s m meth c args D cA aX aM) (hX : va_X b L xs s s.heap) (hbl : b < s.heap.size) (hL : L ≤ 3072) (hcs : cells ≤ 600000 ∧ slots ≤ 7302250) {R : sw_St → sw_St → Prop} (H : ll_all R) {i j : Nat} {σx σm : sw_St} (hR : R σx σm) (hi : i + 6 ≤ L) (hj : j < 64) (k : ∀ x2 m2, R x2 m2 → lx_W p l e s m args below meth c D cA aX aM cells slots Q 18 (ly_lv b aX aM (i + 6)) [] x2 m2) : lx_W p l e s m args below meth c D cA aX aM cells slots Q 33 (ly_lv b aX aM i) [.int (nI j)] σx σm := by
  intro H0 locs ls h1 h2 h3 h4 hS hl
  by_cases h38 : 38 ≤ j
  · refine lv_tableOut (tgt := 1266) C.1 C.2.1 ll_d33 (Or.inr (by rw [nI_toInt (by omega)]; omega)) (by decide) ?_
    exact ll_tail C (k σx σm hR) H0 locs ls h1 h2 h3 h4 hS hl
  have hjj : j = 0 ∨ j = 1 ∨ j = 2 ∨ j = 3 ∨ j = 4 ∨ j = 5 ∨ j = 6 ∨ j = 7 ∨ j = 8 ∨ j = 9 ∨ j = 10 ∨ j = 11 ∨ j = 12 ∨ j = 13 ∨ j = 14 ∨ j = 15 ∨ j = 16 ∨ j = 17 ∨ j = 18 ∨ j = 19 ∨ j = 20 ∨ j = 21 ∨ j = 22 ∨ j = 23 ∨ j = 24 ∨ j = 25 ∨ j = 26 ∨ j = 27 ∨ j = 28 ∨ j = 29 ∨ j = 30 ∨ j = 31 ∨ j = 32 ∨ j = 33 ∨ j = 34 ∨ j = 35 ∨ j = 36 ∨ j = 37 := by omega
  rcases hjj with rfl | rfl | rfl | rfl | rfl | rfl | rfl | rfl | rfl | rfl | rfl | rfl | rfl | rfl | rfl | rfl | rfl | rfl | rfl | rfl | rfl | rfl | rfl | rfl | rfl | rfl | rfl | rfl | rfl | rfl | rfl | rfl | rfl | rfl | rfl | rfl | rfl | rfl
  · refine lv_tableIn (off := 167) (tgt := 200) C.1 C.2.1 ll_d33 (by decide) (by decide) (by decide +kernel) (by decide) ?_
    obtain ⟨v, x2, m2, f1, f2, f3⟩ := (H.1) σx σm hR (xs (i + 1)) (xs (i + 2)) (xs (i + 3)) (xs (i + 4)) (xs (i + 5))
    exact lz_case0 C hX hbl hL hi hcs f1 f2 (ll_tail C (k x2 m2 f3)) H0 locs ls h1 h2 h3 h4 hS hl
  · refine lv_tableIn (off := 230) (tgt := 263) C.1 C.2.1 ll_d33 (by decide) (by decide) (by decide +kernel) (by decide) ?_
    obtain ⟨v, x2, m2, f1, f2, f3⟩ := (H.2.1) σx σm hR (xs (i + 1))
    exact lz_case1 C hX hbl hL hi hcs f1 f2 (ll_tail C (k x2 m2 f3)) H0 locs ls h1 h2 h3 h4 hS hl
  · refine lv_tableIn (off := 253) (tgt := 286) C.1 C.2.1 ll_d33 (by decide) (by decide) (by decide +kernel) (by decide) ?_
    obtain ⟨v, x2, m2, f1, f2, f3⟩ := (H.2.2.1) σx σm hR 
    exact lz_case2 C hX hbl hL hi hcs f1 f2 (ll_tail C (k x2 m2 f3)) H0 locs ls h1 h2 h3 h4 hS hl
  · refine lv_tableIn (off := 266) (tgt := 299) C.1 C.2.1 ll_d33 (by decide) (by decide) (by decide +kernel) (by decide) ?_
    obtain ⟨v, x2, m2, f1, f2, f3⟩ := (H.2.2.2.1) σx σm hR (xs (i + 1))
    exact lz_case3 C hX hbl hL hi hcs f1 f2 (ll_tail C (k x2 m2 f3)) H0 locs ls h1 h2 h3 h4 hS hl
  · refine lv_tableIn (off := 289) (tgt := 322) C.1 C.2.1 ll_d33 (by decide) (by decide) (by decide +kernel) (by decide) ?_
    obtain ⟨v, x2, m2, f1, f2, f3⟩ := (H.2.2.2.2.1) σx σm hR (xs (i + 1))
    exact lz_case4 C hX hbl hL hi hcs f1 f2 (ll_tail C (k x2 m2 f3)) H0 locs ls h1 h2 h3 h4 hS hl
  · refine lv_tableIn (off := 312) (tgt := 345) C.1 C.2.1 ll_d33 (by decide) (by decide) (by decide +kernel) (by decide) ?_
    obtain ⟨v, x2, m2, f1, f2, f3⟩ := (H.2.2.2.2.2.1) σx σm hR (xs (i + 1)) (xs (i + 2)) (xs (i + 3))
    exact lz_case5 C hX hbl hL hi hcs f1 f2 (ll_tail C (k x2 m2 f3)) H0 locs ls h1 h2 h3 h4 hS hl
  · refine lv_tableIn (off := 355) (tgt := 388) C.1 C.2.1 ll_d33 (by decide) (by decide) (by decide +kernel) (by decide) ?_
    obtain ⟨v, x2, m2, f1, f2, f3⟩ := (H.2.2.2.2.2.2.1) σx σm hR (xs (i + 1))
    exact lz_case6 C hX hbl hL hi hcs f1 f2 (ll_tail C (k x2 m2 f3)) H0 locs ls h1 h2 h3 h4 hS hl
  · refine lv_tableIn (off := 378) (tgt := 411) C.1 C.2.1 ll_d33 (by decide) (by decide) (by decide +kernel) (by decide) ?_
    obtain ⟨v, x2, m2, f1, f2, f3⟩ := (H.2.2.2.2.2.2.2.1) σx σm hR (xs (i + 1)) (xs (i + 2))
    exact lz_case7 C hX hbl hL hi hcs f1 f2 (ll_tail C (k x2 m2 f3)) H0 locs ls h1 h2 h3 h4 hS hl
  · refine lv_tableIn (off := 411) (tgt := 444) C.1 C.2.1 ll_d33 (by decide) (by decide) (by decide +kernel) (by decide) ?_
    obtain ⟨v, x2, m2, f1, f2, f3⟩ := (H.2.2.2.2.2.2.2.2.1) σx σm hR (xs (i + 1)) (xs (i + 2))
    exact lz_case8 C hX hbl hL hi hcs f1 f2 (ll_tail C (k x2 m2 f3)) H0 locs ls h1 h2 h3 h4 hS hl
  · refine lv_tableIn (off := 444) (tgt := 477) C.1 C.2.1 ll_d33 (by decide) (by decide) (by decide +kernel) (by decide) ?_
    obtain ⟨v, x2, m2, f1, f2, f3⟩ := (H.2.2.2.2.2.2.2.2.2.1) σx σm hR (xs (i + 1)) (xs (i + 2))
    exact lz_case9 C hX hbl hL hi hcs f1 f2 (ll_tail C (k x2 m2 f3)) H0 locs ls h1 h2 h3 h4 hS hl
  · refine lv_tableIn (off := 477) (tgt := 510) C.1 C.2.1 ll_d33 (by decide) (by decide) (by decide +kernel) (by decide) ?_
    obtain ⟨v, x2, m2, f1, f2, f3⟩ := (H.2.2.2.2.2.2.2.2.2.2.1) σx σm hR (xs (i + 1))
    exact lz_case10 C hX hbl hL hi hcs f1 f2 (ll_tail C (k x2 m2 f3)) H0 locs ls h1 h2 h3 h4 hS hl
  · refine lv_tableIn (off := 500) (tgt := 533) C.1 C.2.1 ll_d33 (by decide) (by decide) (by decide +kernel) (by decide) ?_
    obtain ⟨v, x2, m2, f1, f2, f3⟩ := (H.2.2.2.2.2.2.2.2.2.2.2.1) σx σm hR (xs (i + 1))
    exact lz_case11 C hX hbl hL hi hcs f1 f2 (ll_tail C (k x2 m2 f3)) H0 locs ls h1 h2 h3 h4 hS hl
  · refine lv_tableIn (off := 523) (tgt := 556) C.1 C.2.1 ll_d33 (by decide) (by decide) (by decide +kernel) (by decide) ?_
    obtain ⟨v, x2, m2, f1, f2, f3⟩ := (H.2.2.2.2.2.2.2.2.2.2.2.2.1) σx σm hR (xs (i + 1)) (xs (i + 2))
    exact lz_case12 C hX hbl hL hi hcs f1 f2 (ll_tail C (k x2 m2 f3)) H0 locs ls h1 h2 h3 h4 hS hl
  · refine lv_tableIn (off := 556) (tgt := 589) C.1 C.2.1 ll_d33 (by decide) (by decide) (by decide +kernel) (by decide) ?_
    obtain ⟨v, x2, m2, f1, f2, f3⟩ := (H.2.2.2.2.2.2.2.2.2.2.2.2.2.1) σx σm hR (xs (i + 1)) (xs (i + 2)) (xs (i + 3))
    exact lz_case13 C hX hbl hL hi hcs f1 f2 (ll_tail C (k x2 m2 f3)) H0 locs ls h1 h2 h3 h4 hS hl
  · refine lv_tableIn (off := 599) (tgt := 632) C.1 C.2.1 ll_d33 (by decide) (by decide) (by decide +kernel) (by decide) ?_
    obtain ⟨v, x2, m2, f1, f2, f3⟩ := (H.2.2.2.2.2.2.2.2.2.2.2.2.2.2.1) σx σm hR (xs (i + 1))
    exact lz_case14 C hX hbl hL hi hcs f1 f2 (ll_tail C (k x2 m2 f3)) H0 locs ls h1 h2 h3 h4 hS hl
  · refine lv_tableIn (off := 622) (tgt := 655) C.1 C.2.1 ll_d33 (by decide) (by decide) (by decide +kernel) (by decide) ?_
    obtain ⟨v, x2, m2, f1, f2, f3⟩ := (H.2.2.2.2.2.2.2.2.2.2.2.2.2.2.2.1) σx σm hR (xs (i + 1)) (xs (i + 2)) (xs (i + 3))
    exact lz_case15 C hX hbl hL hi hcs f1 f2 (ll_tail C (k x2 m2 f3)) H0 locs ls h1 h2 h3 h4 hS hl
  · refine lv_tableIn (off := 665) (tgt := 698) C.1 C.2.1 ll_d33 (by decide) (by decide) (by decide +kernel) (by decide) ?_
    obtain ⟨v, x2, m2, f1, f2, f3⟩ := (H.2.2.2.2.2.2.2.2.2.2.2.2.2.2.2.2.1) σx σm hR (xs (i + 1)) (xs (i + 2))
    exact lz_case16 C hX hbl hL hi hcs f1 f2 (ll_tail C (k x2 m2 f3)) H0 locs ls h1 h2 h3 h4 hS hl
  · refine lv_tableIn (off := 698) (tgt := 731) C.1 C.2.1 ll_d33 (by decide) (by decide) (by decide +kernel) (by decide) ?_
    obtain ⟨v, x2, m2, f1, f2, f3⟩ := (H.2.2.2.2.2.2.2.2.2.2.2.2.2.2.2.2.2.1) σx σm hR (xs (i + 1)) (xs (i + 2))
    exact lz_case17 C hX hbl hL hi hcs f1 f2 (ll_tail C (k x2 m2 f3)) H0 locs ls h1 h2 h3 h4 hS hl
  · refine lv_tableIn (off := 731) (tgt := 764) C.1 C.2.1 ll_d33 (by decide) (by decide) (by decide +kernel) (by decide) ?_
    obtain ⟨v, x2, m2, f1, f2, f3⟩ := (H.2.2.2.2.2.2.2.2.2.2.2.2.2.2.2.2.2.2.1) σx σm hR (xs (i + 1)) (xs (i + 2)) (xs (i + 3))
    exact lz_case18 C hX hbl hL hi hcs f1 f2 (ll_tail C (k x2 m2 f3)) H0 locs ls h1 h2 h3 h4 hS hl
  · refine lv_tableIn (off := 774) (tgt := 807) C.1 C.2.1 ll_d33 (by decide) (by decide) (by decide +kernel) (by decide) ?_
    obtain ⟨v, x2, m2, f1, f2, f3⟩ := (H.2.2.2.2.2.2.2.2.2.2.2.2.2.2.2.2.2.2.2.1) σx σm hR (xs (i + 1))
    exact lz_case19 C hX hbl hL hi hcs f1 f2 (ll_tail C (k x2 m2 f3)) H0 locs ls h1 h2 h3 h4 hS hl
  · refine lv_tableIn (off := 797) (tgt := 830) C.1 C.2.1 ll_d33 (by decide) (by decide) (by decide +kernel) (by decide) ?_
    obtain ⟨v, x2, m2, f1, f2, f3⟩ := (H.2.2.2.2.2.2.2.2.2.2.2.2.2.2.2.2.2.2.2.2.1) σx σm hR (xs (i + 1))
    exact lz_case20 C hX hbl hL hi hcs f1 f2 (ll_tail C (k x2 m2 f3)) H0 locs ls h1 h2 h3 h4 hS hl
  · refine lv_tableIn (off := 820) (tgt := 853) C.1 C.2.1 ll_d33 (by decide) (by decide) (by decide +kernel) (by decide) ?_
    obtain ⟨v, x2, m2, f1, f2, f3⟩ := (H.2.2.2.2.2.2.2.2.2.2.2.2.2.2.2.2.2.2.2.2.2.1) σx σm hR (xs (i + 1)) (xs (i + 2)) (xs (i + 3))
    exact lz_case21 C hX hbl hL hi hcs f1 f2 (ll_tail C (k x2 m2 f3)) H0 locs ls h1 h2 h3 h4 hS hl
  · refine lv_tableIn (off := 864) (tgt := 897) C.1 C.2.1 ll_d33 (by decide) (by decide) (by decide +kernel) (by decide) ?_
    obtain ⟨v, x2, m2, f1, f2, f3⟩ := (H.2.2.2.2.2.2.2.2.2.2.2.2.2.2.2.2.2.2.2.2.2.2.1) σx σm hR 
    exact lz_case22 C hX hbl hL hi hcs f1 f2 (ll_tail C (k x2 m2 f3)) H0 locs ls h1 h2 h3 h4 hS hl
  · refine lv_tableIn (off := 877) (tgt := 910) C.1 C.2.1 ll_d33 (by decide) (by decide) (by decide +kernel) (by decide) ?_
    obtain ⟨v, x2, m2, f1, f2, f3⟩ := (H.2.2.2.2.2.2.2.2.2.2.2.2.2.2.2.2.2.2.2.2.2.2.2.1) σx σm hR (xs (i + 1))
    exact lz_case23 C hX hbl hL hi hcs f1 f2 (ll_tail C (k x2 m2 f3)) H0 locs ls h1 h2 h3 h4 hS hl
  · refine lv_tableIn (off := 900) (tgt := 933) C.1 C.2.1 ll_d33 (by decide) (by decide) (by decide +kernel) (by decide) ?_
    obtain ⟨v, x2, m2, f1, f2, f3⟩ := (H.2.2.2.2.2.2.2.2.2.2.2.2.2.2.2.2.2.2.2.2.2.2.2.2.1) σx σm hR (xs (i + 1)) (xs (i + 2))
    exact lz_case24 C hX hbl hL hi hcs f1 f2 (ll_tail C (k x2 m2 f3)) H0 locs ls h1 h2 h3 h4 hS hl
  · refine lv_tableIn (off := 933) (tgt := 966) C.1 C.2.1 ll_d33 (by decide) (by decide) (by decide +kernel) (by decide) ?_
    obtain ⟨v, x2, m2, f1, f2, f3⟩ := (H.2.2.2.2.2.2.2.2.2.2.2.2.2.2.2.2.2.2.2.2.2.2.2.2.2.1) σx σm hR (xs (i + 1))
    exact lz_case25 C hX hbl hL hi hcs f1 f2 (ll_tail C (k x2 m2 f3)) H0 locs ls h1 h2 h3 h4 hS hl
  · refine lv_tableIn (off := 956) (tgt := 989) C.1 C.2.1 ll_d33 (by decide) (by decide) (by decide +kernel) (by decide) ?_
    obtain ⟨v, x2, m2, f1, f2, f3⟩ := (H.2.2.2.2.2.2.2.2.2.2.2.2.2.2.2.2.2.2.2.2.2.2.2.2.2.2.1) σx σm hR (xs (i + 1)) (xs (i + 2))
    exact lz_case26 C hX hbl hL hi hcs f1 f2 (ll_tail C (k x2 m2 f3)) H0 locs ls h1 h2 h3 h4 hS hl
  · refine lv_tableIn (off := 989) (tgt := 1022) C.1 C.2.1 ll_d33 (by decide) (by decide) (by decide +kernel) (by decide) ?_
    obtain ⟨v, x2, m2, f1, f2, f3⟩ := (H.2.2.2.2.2.2.2.2.2.2.2.2.2.2.2.2.2.2.2.2.2.2.2.2.2.2.2.1) σx σm hR (xs (i + 1)) (xs (i + 2))
    exact lz_case27 C hX hbl hL hi hcs f1 f2 (ll_tail C (k x2 m2 f3)) H0 locs ls h1 h2 h3 h4 hS hl
  · refine lv_tableIn (off := 1022) (tgt := 1055) C.1 C.2.1 ll_d33 (by decide) (by decide) (by decide +kernel) (by decide) ?_
    obtain ⟨v, x2, m2, f1, f2, f3⟩ := (H.2.2.2.2.2.2.2.2.2.2.2.2.2.2.2.2.2.2.2.2.2.2.2.2.2.2.2.2.1) σx σm hR (xs (i + 1)) (xs (i + 2)) (xs (i + 3))
    exact lz_case28 C hX hbl hL hi hcs f1 f2 (ll_tail C (k x2 m2 f3)) H0 locs ls h1 h2 h3 h4 hS hl
  · refine lv_tableIn (off := 1065) (tgt := 1098) C.1 C.2.1 ll_d33 (by decide) (by decide) (by decide +kernel) (by decide) ?_
    obtain ⟨v, x2, m2, f1, f2, f3⟩ := (H.2.2.2.2.2.2.2.2.2.2.2.2.2.2.2.2.2.2.2.2.2.2.2.2.2.2.2.2.2.1) σx σm hR (xs (i + 1))
    exact lz_case29 C hX hbl hL hi hcs f1 f2 (ll_tail C (k x2 m2 f3)) H0 locs ls h1 h2 h3 h4 hS hl
  · refine lv_tableIn (off := 1088) (tgt := 1121) C.1 C.2.1 ll_d33 (by decide) (by decide) (by decide +kernel) (by decide) ?_
    obtain ⟨v, x2, m2, f1, f2, f3⟩ := (H.2.2.2.2.2.2.2.2.2.2.2.2.2.2.2.2.2.2.2.2.2.2.2.2.2.2.2.2.2.2.1) σx σm hR (xs (i + 1))
    exact lz_case30 C hX hbl hL hi hcs f1 f2 (ll_tail C (k x2 m2 f3)) H0 locs ls h1 h2 h3 h4 hS hl
  · refine lv_tableIn (off := 1111) (tgt := 1144) C.1 C.2.1 ll_d33 (by decide) (by decide) (by decide +kernel) (by decide) ?_
    obtain ⟨v, x2, m2, f1, f2, f3⟩ := (H.2.2.2.2.2.2.2.2.2.2.2.2.2.2.2.2.2.2.2.2.2.2.2.2.2.2.2.2.2.2.2.1) σx σm hR 
    exact lz_case31 C hX hbl hL hi hcs f1 f2 (ll_tail C (k x2 m2 f3)) H0 locs ls h1 h2 h3 h4 hS hl
  · refine lv_tableIn (off := 1124) (tgt := 1157) C.1 C.2.1 ll_d33 (by decide) (by decide) (by decide +kernel) (by decide) ?_
    obtain ⟨v, x2, m2, f1, f2, f3⟩ := (H.2.2.2.2.2.2.2.2.2.2.2.2.2.2.2.2.2.2.2.2.2.2.2.2.2.2.2.2.2.2.2.2.1) σx σm hR (xs (i + 1))
    exact lz_case32 C hX hbl hL hi hcs f1 f2 (ll_tail C (k x2 m2 f3)) H0 locs ls h1 h2 h3 h4 hS hl
  · refine lv_tableIn (off := 1147) (tgt := 1180) C.1 C.2.1 ll_d33 (by decide) (by decide) (by decide +kernel) (by decide) ?_
    obtain ⟨v, x2, m2, f1, f2, f3⟩ := (H.2.2.2.2.2.2.2.2.2.2.2.2.2.2.2.2.2.2.2.2.2.2.2.2.2.2.2.2.2.2.2.2.2.1) σx σm hR 
    exact lz_case33 C hX hbl hL hi hcs f1 f2 (ll_tail C (k x2 m2 f3)) H0 locs ls h1 h2 h3 h4 hS hl
  · refine lv_tableIn (off := 1161) (tgt := 1194) C.1 C.2.1 ll_d33 (by decide) (by decide) (by decide +kernel) (by decide) ?_
    obtain ⟨v, x2, m2, f1, f2, f3⟩ := (H.2.2.2.2.2.2.2.2.2.2.2.2.2.2.2.2.2.2.2.2.2.2.2.2.2.2.2.2.2.2.2.2.2.2.1) σx σm hR 
    exact lz_case34 C hX hbl hL hi hcs f1 f2 (ll_tail C (k x2 m2 f3)) H0 locs ls h1 h2 h3 h4 hS hl
  · refine lv_tableIn (off := 1174) (tgt := 1207) C.1 C.2.1 ll_d33 (by decide) (by decide) (by decide +kernel) (by decide) ?_
    obtain ⟨v, x2, m2, f1, f2, f3⟩ := (H.2.2.2.2.2.2.2.2.2.2.2.2.2.2.2.2.2.2.2.2.2.2.2.2.2.2.2.2.2.2.2.2.2.2.2.1) σx σm hR (xs (i + 1))
    exact lz_case35 C hX hbl hL hi hcs f1 f2 (ll_tail C (k x2 m2 f3)) H0 locs ls h1 h2 h3 h4 hS hl
  · refine lv_tableIn (off := 1197) (tgt := 1230) C.1 C.2.1 ll_d33 (by decide) (by decide) (by decide +kernel) (by decide) ?_
    obtain ⟨v, x2, m2, f1, f2, f3⟩ := (H.2.2.2.2.2.2.2.2.2.2.2.2.2.2.2.2.2.2.2.2.2.2.2.2.2.2.2.2.2.2.2.2.2.2.2.2.1) σx σm hR 
    exact lz_case36 C hX hbl hL hi hcs f1 f2 (ll_tail C (k x2 m2 f3)) H0 locs ls h1 h2 h3 h4 hS hl
  · refine lv_tableIn (off := 1210) (tgt := 1243) C.1 C.2.1 ll_d33 (by decide) (by decide) (by decide +kernel) (by decide) ?_
    obtain ⟨v, x2, m2, f1, f2, f3⟩ := (H.2.2.2.2.2.2.2.2.2.2.2.2.2.2.2.2.2.2.2.2.2.2.2.2.2.2.2.2.2.2.2.2.2.2.2.2.2) σx σm hR (xs (i + 1))
    exact lz_case37 C hX hbl hL hi hcs f1 f2 (ll_tail C (k x2 m2 f3)) H0 locs ls h1 h2 h3 h4 hS hl
set_option maxHeartbeats 4000000 in
theorem ll_loop {p : Program} {l : Launch} {e : Env} {s : State} {m : MethodId} {below : List Frame} {meth : Method} {c : Code} {b L : Nat} {xs : Nat → Int32} {D : va_G} {cA : Nat → ClassId} {aX aM : Nat → Nat} {cells slots : Nat} {Q : State → Prop} {args : Array Value} (C : lx_C l p s m meth c args D cA aX aM) (hX : va_X b L xs s s.heap) (hbl : b < s.heap.size) (hL : L ≤ 3072) (hcs : cells ≤ 600000 ∧ slots ≤ 7302250) {R : sw_St → sw_St → Prop} (H : ll_all R) (hend : ∀ i σx σm, R σx σm → lx_W p l e s m args below meth c D cA aX aM cells slots Q 1272 (ly_lv b aX aM i) [] σx σm) : ∀ (n i : Nat) (σx σm : sw_St), R σx σm → L < i + 6 * n → i ≤ 3078 → lx_W p l e s m args below meth c D cA aX aM cells slots Q 18 (ly_lv b aX aM i) [] σx σm
  | 0, i, σx, σm, hR, hn, hi => by
    intro H0 locs ls h1 h2 h3 h4 hS hl
    have hbA : ¬ (fun q : Nat => s.heap.size ≤ q) b := Nat.not_le.mpr hbl
    refine lv_iload_n C.1 C.2.1 (show decode code 18 = .ok (.iload_n 3, 1) from by decide +kernel) rfl (lv_at hl 3 rfl) ?_
    refine lv_aload_n C.1 C.2.1 (show decode code 19 = .ok (.aload_n 0, 1) from by decide +kernel) rfl (lv_at hl 0 rfl) ?_
    refine va_slen C.1 C.2.1 hX hbl hbA hS (by decide +kernel) ?_
    refine lv_bipush (n := 6) (v := 6) C.1 C.2.1 (by decide +kernel) (by decide) ?_
    refine lv_isub C.1 C.2.1 (by decide +kernel) ?_
    refine lv_icmp_gt (off := 1248) (tgt := 1272) C.1 C.2.1 (by decide +kernel) (by decide) (fun _ => hend i σx σm hR H0 locs ls h1 h2 h3 h4 hS hl) (fun hc => absurd ?_ hc)
    rw [fa_lt, show Int32.ofNat L - 6 = nI L - nI 6 from rfl, pk_sub_toInt (by omega) (by omega), nI_toInt (by omega)]
    omega
  | n + 1, i, σx, σm, hR, hn, hi => by
    intro H0 locs ls h1 h2 h3 h4 hS hl
    have hbA : ¬ (fun q : Nat => s.heap.size ≤ q) b := Nat.not_le.mpr hbl
    refine lv_iload_n C.1 C.2.1 (show decode code 18 = .ok (.iload_n 3, 1) from by decide +kernel) rfl (lv_at hl 3 rfl) ?_
    refine lv_aload_n C.1 C.2.1 (show decode code 19 = .ok (.aload_n 0, 1) from by decide +kernel) rfl (lv_at hl 0 rfl) ?_
    refine va_slen C.1 C.2.1 hX hbl hbA hS (by decide +kernel) ?_
    refine lv_bipush (n := 6) (v := 6) C.1 C.2.1 (by decide +kernel) (by decide) ?_
    refine lv_isub C.1 C.2.1 (by decide +kernel) ?_
    refine lv_icmp_gt (off := 1248) (tgt := 1272) C.1 C.2.1 (by decide +kernel) (by decide) (fun _ => hend i σx σm hR H0 locs ls h1 h2 h3 h4 hS hl) (fun hc => ?_)
    rw [fa_lt, show Int32.ofNat L - 6 = nI L - nI 6 from rfl, pk_sub_toInt (by omega) (by omega), nI_toInt (by omega)] at hc
    have hi6 : i + 6 ≤ L := by omega
    refine lv_aload_n C.1 C.2.1 (show decode code 27 = .ok (.aload_n 0, 1) from by decide +kernel) rfl (lv_at hl 0 rfl) ?_
    refine lv_iload_n C.1 C.2.1 (show decode code 28 = .ok (.iload_n 3, 1) from by decide +kernel) rfl (lv_at hl 3 rfl) ?_
    refine va_sld C.1 C.2.1 hX hbl hbA hS (vp_in_nI (by omega) (by omega)) (by decide +kernel) ?_
    refine lv_bipush (n := 63) (v := 63) C.1 C.2.1 (by decide +kernel) (by decide) ?_
    refine lv_iand C.1 C.2.1 (by decide +kernel) ?_
    obtain ⟨j, hj, ej⟩ := pk_andE (xs (nI i).toNatClampNeg) (m := 63) 6 (by decide)
    rw [ej]
    exact ll_switch C hX hbl hL hcs H hR hi6 hj (fun x2 m2 h => ll_loop C hX hbl hL hcs H hend n (i + 6) x2 m2 h (by omega) (by omega)) H0 locs ls h1 h2 h3 h4 hS hl

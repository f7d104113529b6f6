/-! The text WORDS: String.length and String.charAt on the one String constant, by the JDK's own bytecode. -/
def st_P (k v : Nat) (A : Nat → Prop) (U : State) : Prop := vk_S 1 [158] [sw_wl] (fun _ => k) (fun _ => v) A U U.heap ∧ va_Z "java/lang/String" "COMPACT_STRINGS" "Z" (.int 1) A U U.heap ∧ va_Zq "jdk/internal/util/Preconditions" "SIOOBE_FORMATTER" "Ljava/util/function/BiFunction;" A U U.heap
theorem st_blind {k v : Nat} {A : Nat → Prop} {av : List Value} : FrameBlind (va_Pc av (st_P k v A)) := by
  intro a U g mk q
  obtain ⟨q0, h2, h3, h4⟩ := q
  exact ⟨q0, vk_S.moved (u := U) (U := U.calling g mk a) (Vm.Alike.refl U.vm) h2, va_Z.moved (u := U) (U := U.calling g mk a) (Vm.Alike.refl U.vm) h3, va_Zq.moved (u := U) (U := U.calling g mk a) (Vm.Alike.refl U.vm) h4⟩
theorem st_mv {k v : Nat} {A : Nat → Prop} {s U : State} {H : Heap} {locs : List Loc} (h : st_P k v A s) (hW : s.WarmedH U.vm) (hU : U.heap = H) (hS : va_S A s.heap H locs) : st_P k v A U := by
  obtain ⟨h2, h3, h4⟩ := h
  have hk : ∀ a : Nat, a < s.heap.size → ¬ A a → H[a]? = s.heap[a]? := fun a q1 q2 => hS.2.1 a q1 q2
  exact ⟨by rw [hU]; exact (h2.kept hk).moved hW.alike, by rw [hU]; exact (h3.kept hk).moved hW.alike, by rw [hU]; exact (h4.kept hk).moved hW.alike⟩
section st_af
variable {p : Program} {l : Launch} {e : Env} {R : Room} {s : State} {m : MethodId} {args : Array Value} {below : List Frame} {meth : Method} {c : Code} {H : Heap} {locs : List Loc} {cells slots : Nat} {Q : State → Prop} {pc : Nat} {ls : Array Slot} {rest st0 : List Value} {a : Array Value}
theorem st_after {post : Int32 → Prop} (hr : va_Run p l e R s m args below meth c H locs cells slots 0 0 (F0 m pc ls st0) rest (vp_Si post a) (fun _ => False)) (kk : ∀ r : Int32, post r → W p l e R s m args below meth c H locs cells slots Q (F0 m (pc + 3) ls (.int r :: rest))) : W p l e R s m args below meth c H locs cells slots Q (F0 m pc ls st0) := by
  intro T hT X
  obtain ⟨v, st₀, t, T', L, h0, X', hL, e1, e2, ⟨r, hv, hp, hh⟩, stp⟩ := hr T hT X
  cases hv
  have hLn : L = [] := List.eq_nil_iff_forall_not_mem.mpr (fun q hq => hL q hq)
  subst hLn
  rw [List.append_nil] at X'
  obtain ⟨t2, a1, b1⟩ := kk r hp T' (by rw [e1, hh, h0]) X'
  exact ⟨t2, stp t2 a1, b1⟩
theorem st_afterv (hr : va_Run p l e R s m args below meth c H locs cells slots 0 0 (F0 m pc ls st0) rest (va_Sv (fun _ => True) a) (fun _ => False)) (kk : W p l e R s m args below meth c H locs cells slots Q (F0 m (pc + 3) ls rest)) : W p l e R s m args below meth c H locs cells slots Q (F0 m pc ls st0) := by
  intro T hT X
  obtain ⟨v, st₀, t, T', L, h0, X', hL, e1, e2, ⟨hv, -, hh⟩, stp⟩ := hr T hT X
  cases hv
  have hLn : L = [] := List.eq_nil_iff_forall_not_mem.mpr (fun q hq => hL q hq)
  subst hLn
  rw [List.append_nil] at X'
  obtain ⟨t2, a1, b1⟩ := kk T' (by rw [e1, hh, h0]) X'
  exact ⟨t2, stp t2 a1, b1⟩
end st_af
def st_ws (y : MethodName) (b : ByteArray) (n : Nat) (r : Option FieldType) : List Cond := .code y b n r :: sw_T
theorem st_wsT {y : MethodName} {b : ByteArray} {n : Nat} {r : Option FieldType} (h : Cond.code y b n r ∈ sw_T) : GoodIn sw_T (st_ws y b n r) := by
  intro w hw
  rcases List.mem_cons.mp hw with rfl | hw
  · exact sw_goodT _ h
  · exact sw_goodT _ hw
theorem st_V {own C : String} {idx : Nat} {y : MethodName} {b : ByteArray} {n : Nat} {r : Option FieldType} (h1 : Cond.methodLink own idx y ∈ sw_T) (h2 : Cond.instanceMethod y ∈ sw_T) (h3 : Cond.selects C y y ∈ sw_T) (h4 : Cond.initialized C ∈ sw_T) (h5 : Cond.code y b n r ∈ sw_T) : GoodIn sw_T (wsV own idx C y (st_ws y b n r)) := by
  intro w hw
  rcases List.mem_append.mp hw with h | h
  · simp only [List.mem_cons, List.not_mem_nil, or_false] at h
    rcases h with rfl | rfl | rfl | rfl
    · exact sw_goodT _ h1
    · exact sw_goodT _ h2
    · exact sw_goodT _ h3
    · exact sw_goodT _ h4
  · exact st_wsT h5 w h
theorem st_S {own : String} {idx : Nat} {y : MethodName} {b : ByteArray} {n : Nat} {r : Option FieldType} (h1 : Cond.methodLink own idx y ∈ sw_T) (h2 : Cond.static y ∈ sw_T) (h4 : Cond.initialized y.cls ∈ sw_T) (h5 : Cond.code y b n r ∈ sw_T) : GoodIn sw_T (va_wsS own idx y (st_ws y b n r)) := by
  intro w hw
  rcases List.mem_append.mp hw with h | h
  · simp only [List.mem_cons, List.not_mem_nil, or_false] at h
    rcases h with rfl | rfl | rfl
    · exact sw_goodT _ h1
    · exact sw_goodT _ h2
    · exact sw_goodT _ h4
  · exact st_wsT h5 w h
theorem st_cI0 : Cond.code yJ0_coder_7d493 cJ0_coder_7d493 1 (some .byte) ∈ sw_T := sw_T_at 653 (by decide +kernel)
theorem st_cI1 : Cond.code yJ0_isLatin1_aae02 cJ0_isLatin1_aae02 1 (some .boolean) ∈ sw_T := sw_T_at 663 (by decide +kernel)
theorem st_cI2 : Cond.code yJ0_length_8abf5 cJ0_length_8abf5 1 (some .int) ∈ sw_T := sw_T_at 649 (by decide +kernel)
theorem st_cI3 : Cond.code yJ3_checkIndex_8e157 cJ3_checkIndex_8e157 3 (some .int) ∈ sw_T := sw_T_at 674 (by decide +kernel)
theorem st_cI4 : Cond.code yJ0_checkIndex_df160 cJ0_checkIndex_df160 2 none ∈ sw_T := sw_T_at 669 (by decide +kernel)
theorem st_cI5 : Cond.code yJ1_charAt_3b067 cJ1_charAt_3b067 2 (some .char) ∈ sw_T := sw_T_at 666 (by decide +kernel)
theorem st_cI6 : Cond.code yJ0_charAt_5068e cJ0_charAt_5068e 2 (some .char) ∈ sw_T := sw_T_at 659 (by decide +kernel)
set_option maxHeartbeats 4000000 in
set_option maxRecDepth 100000 in
/-- coder() is 0 -/
theorem st_coder (l : Launch) (k v d : Nat) (A : Nat → Prop) : Met l yJ0_coder_7d493 (st_ws yJ0_coder_7d493 cJ0_coder_7d493 1 (some .byte)) (sw_rm d) (va_Pc [.ref k] (st_P k v A)) (vp_Si (fun r => r = 0)) 0 0 (fun _ => False) := by
  refine va_MetF (cc := cJ0_coder_7d493) (maxL := 1) (ret := some .byte) (by decide +kernel) rfl ?_
  intro p e s m args below meth c s₁ B hml hv
  obtain ⟨rfl, hZ, hC, hF⟩ := hv
  have hx := B.exec
  have hb := B.bytes
  have hts := atoms_spec (ws := st_ws yJ0_coder_7d493 cJ0_coder_7d493 1 (some .byte)) B.pre
  have hown : s.vm.findClass "java/lang/String" = some m.cls := findClass_of_methodNamed B.named
  have hlocks := B.notSynchronized
  have hS : va_S A s.heap s.heap [] := va_S.rf
  have hl := lv_entry ([.ref k]) (n := 1) (Nat.le_of_ble_eq_true rfl)
  rw [lg_entry_eq]
  generalize (lg_sl ([.ref k]) ++ List.replicate (1 - (lg_sl ([.ref k])).length) Slot.unset).toArray = ls at hl ⊢
  have hl : lv_has ls 1 [(0, .ref k)] := hl
  refine va_gets hx hb hC hS hown (hts (.fieldLink "java/lang/String" 38 "java/lang/String" "COMPACT_STRINGS" "Z") (List.mem_cons_of_mem _ (sw_T_at 654 (by decide +kernel)))) (fun _ h => h) (by decide +kernel : decode cJ0_coder_7d493 0 = .ok (.getstatic 38, 3)) ?_
  refine lv_if_eq (tgt := 13) hx hb (by decide +kernel : decode cJ0_coder_7d493 3 = .ok (.ifCond .eq 10, 3)) (by decide) (fun h => absurd h (by decide)) (fun _ => ?_)
  refine lv_aload_n hx hb (by decide +kernel : decode cJ0_coder_7d493 6 = .ok (.aload_n 0, 1)) rfl (lv_at hl 0 rfl) ?_
  refine vk_getf hx hb (hZ.1 0 (by decide)).2.1 hS hown (hts (.fieldLink "java/lang/String" 15 "java/lang/String" "coder" "B") (List.mem_cons_of_mem _ (sw_T_at 2168 (by decide +kernel)))) (fun _ h => h) (by decide +kernel : decode cJ0_coder_7d493 7 = .ok (.getfield 15, 3)) ?_
  refine lv_goto (tgt := 14) hx hb (by decide +kernel : decode cJ0_coder_7d493 10 = .ok (.goto 4, 3)) (by decide) ?_
  exact W.zret (v := 0) hx hb B.returns rfl (fun t ht hW => ⟨0, rfl, rfl, ht⟩) (fun _ h => by cases h) (by decide +kernel : decode cJ0_coder_7d493 14 = .ok (.ireturn, 1))
set_option maxHeartbeats 4000000 in
set_option maxRecDepth 100000 in
/-- isLatin1() is true -/
theorem st_isLatin1 (l : Launch) (k v d : Nat) (A : Nat → Prop) : Met l yJ0_isLatin1_aae02 (st_ws yJ0_isLatin1_aae02 cJ0_isLatin1_aae02 1 (some .boolean)) (sw_rm d) (va_Pc [.ref k] (st_P k v A)) (vp_Si (fun r => r = 1)) 0 0 (fun _ => False) := by
  refine va_MetF (cc := cJ0_isLatin1_aae02) (maxL := 1) (ret := some .boolean) (by decide +kernel) rfl ?_
  intro p e s m args below meth c s₁ B hml hv
  obtain ⟨rfl, hZ, hC, hF⟩ := hv
  have hx := B.exec
  have hb := B.bytes
  have hts := atoms_spec (ws := st_ws yJ0_isLatin1_aae02 cJ0_isLatin1_aae02 1 (some .boolean)) B.pre
  have hown : s.vm.findClass "java/lang/String" = some m.cls := findClass_of_methodNamed B.named
  have hlocks := B.notSynchronized
  have hS : va_S A s.heap s.heap [] := va_S.rf
  have hl := lv_entry ([.ref k]) (n := 1) (Nat.le_of_ble_eq_true rfl)
  rw [lg_entry_eq]
  generalize (lg_sl ([.ref k]) ++ List.replicate (1 - (lg_sl ([.ref k])).length) Slot.unset).toArray = ls at hl ⊢
  have hl : lv_has ls 1 [(0, .ref k)] := hl
  refine va_gets hx hb hC hS hown (hts (.fieldLink "java/lang/String" 38 "java/lang/String" "COMPACT_STRINGS" "Z") (List.mem_cons_of_mem _ (sw_T_at 654 (by decide +kernel)))) (fun _ h => h) (by decide +kernel : decode cJ0_isLatin1_aae02 0 = .ok (.getstatic 38, 3)) ?_
  refine lv_if_eq (tgt := 17) hx hb (by decide +kernel : decode cJ0_isLatin1_aae02 3 = .ok (.ifCond .eq 14, 3)) (by decide) (fun h => absurd h (by decide)) (fun _ => ?_)
  refine lv_aload_n hx hb (by decide +kernel : decode cJ0_isLatin1_aae02 6 = .ok (.aload_n 0, 1)) rfl (lv_at hl 0 rfl) ?_
  refine vk_getf hx hb (hZ.1 0 (by decide)).2.1 hS hown (hts (.fieldLink "java/lang/String" 15 "java/lang/String" "coder" "B") (List.mem_cons_of_mem _ (sw_T_at 2168 (by decide +kernel)))) (fun _ h => h) (by decide +kernel : decode cJ0_isLatin1_aae02 7 = .ok (.getfield 15, 3)) ?_
  refine lv_if_ne (tgt := 17) hx hb (by decide +kernel : decode cJ0_isLatin1_aae02 10 = .ok (.ifCond .ne 7, 3)) (by decide) (fun h => absurd rfl h) (fun _ => ?_)
  refine lv_iconst (v := 1) hx hb (by decide +kernel : decode cJ0_isLatin1_aae02 13 = .ok (.iconst 1, 1)) (by decide) ?_
  refine lv_goto (tgt := 18) hx hb (by decide +kernel : decode cJ0_isLatin1_aae02 14 = .ok (.goto 4, 3)) (by decide) ?_
  exact W.zret (v := 1) hx hb B.returns rfl (fun t ht hW => ⟨1, rfl, rfl, ht⟩) (fun _ h => by cases h) (by decide +kernel : decode cJ0_isLatin1_aae02 18 = .ok (.ireturn, 1))
set_option maxHeartbeats 4000000 in
set_option maxRecDepth 100000 in
/-- length() -/
theorem st_length (l : Launch) (k v d : Nat) (A : Nat → Prop) (hd : 1 ≤ d) : Met l yJ0_length_8abf5 (st_ws yJ0_length_8abf5 cJ0_length_8abf5 1 (some .int)) (sw_rm d) (va_Pc [.ref k] (st_P k v A)) (vp_Si (fun r => r = 158)) 0 0 (fun _ => False) := by
  refine va_MetF (cc := cJ0_length_8abf5) (maxL := 1) (ret := some .int) (by decide +kernel) rfl ?_
  intro p e s m args below meth c s₁ B hml hv
  obtain ⟨rfl, hZP⟩ := hv
  obtain ⟨hZ, hC, hF⟩ := id hZP
  have hx := B.exec
  have hb := B.bytes
  have hts := atoms_spec (ws := st_ws yJ0_length_8abf5 cJ0_length_8abf5 1 (some .int)) B.pre
  have htT : ∀ w ∈ sw_T, w.before #[Value.ref k] s = true := fun w hw => hts w (List.mem_cons_of_mem _ hw)
  have hown : s.vm.findClass "java/lang/String" = some m.cls := findClass_of_methodNamed B.named
  have hlocks := B.notSynchronized
  have hS : va_S A s.heap s.heap [] := va_S.rf
  have hl := lv_entry ([.ref k]) (n := 1) (Nat.le_of_ble_eq_true rfl)
  rw [lg_entry_eq]
  generalize (lg_sl ([.ref k]) ++ List.replicate (1 - (lg_sl ([.ref k])).length) Slot.unset).toArray = ls at hl ⊢
  have hl : lv_has ls 1 [(0, .ref k)] := hl
  refine lv_aload_n hx hb (by decide +kernel : decode cJ0_length_8abf5 0 = .ok (.aload_n 0, 1)) rfl (lv_at hl 0 rfl) ?_
  refine vk_getf hx hb (hZ.1 0 (by decide)).2.2.1 hS hown (htT (.fieldLink "java/lang/String" 9 "java/lang/String" "value" "[B") (sw_T_at 2167 (by decide +kernel))) (fun _ h => h) (by decide +kernel : decode cJ0_length_8abf5 1 = .ok (.getfield 9, 3)) ?_
  refine va_tlen (v := 158) hx hb (hZ.1 0 (by decide)).2.2.2 hS (by decide) (by decide +kernel : decode cJ0_length_8abf5 4 = .ok (.arraylength, 1)) ?_
  refine lv_aload_n hx hb (by decide +kernel : decode cJ0_length_8abf5 5 = .ok (.aload_n 0, 1)) rfl (lv_at hl 0 rfl) ?_
  have hrun := va_runV (As := []) (b := k) (C := "java/lang/String") (rest := [.int 158]) (g := F0 m 6 ls [.ref k, .int 158]) (below := below) (locs := []) (cells := 0) (slots := 0) (e := e) (meth := meth) (R := sw_rm d) (H := s.heap) ⟨hx, hb, hml, hown, htT⟩ (st_coder l k v 0 A)
    (cwV 0 htT (st_V (sw_T_at 650 (by decide +kernel)) (sw_T_at 651 (by decide +kernel)) (sw_T_at 652 (by decide +kernel)) (sw_T_at 140 (by decide +kernel)) st_cI0) rfl rfl rfl ⟨rfl, by decide +kernel, by decide +kernel, by decide +kernel⟩ (show 0 + 1 ≤ d ∧ 8 + (1 + 11) + 70 * 0 ≤ 70 * d by omega))
    ⟨st_blind, vk_recv (i := 0) hZ (by decide) hS, fun U hU hW => ⟨rfl, st_mv hZP hW hU hS⟩⟩ rfl rfl hl.1 rfl (lv_room (Nat.le_of_ble_eq_true rfl)) (by decide +kernel : decode cJ0_length_8abf5 6 = .ok (.invokevirtual 335, 3)) ⟨Nat.le_refl _, Nat.le_refl _⟩
  refine st_after hrun (fun r hr0 => ?_)
  subst hr0
  refine lv_ishr hx hb (by decide +kernel : decode cJ0_length_8abf5 9 = .ok (.ishr, 1)) ?_
  exact W.zret hx hb B.returns rfl (fun t ht hW => ⟨_, rfl, by decide, ht⟩) (fun _ h => by cases h) (by decide +kernel : decode cJ0_length_8abf5 10 = .ok (.ireturn, 1))
set_option maxHeartbeats 4000000 in
set_option maxRecDepth 100000 in
/-- Preconditions.checkIndex(i, n, f), i in range -/
theorem st_pre (l : Launch) (d : Nat) (i n : Int32) (fv : Value) (hfv : fv = .null ∨ ∃ a, fv = .ref a) (h0 : ¬ i < 0) (h1 : i < n) (P : State → Prop) : Met l yJ3_checkIndex_8e157 (st_ws yJ3_checkIndex_8e157 cJ3_checkIndex_8e157 3 (some .int)) (sw_rm d) (va_Pc [.int i, .int n, fv] P) (vp_Si (fun r => r = i)) 0 0 (fun _ => False) := by
  refine va_MetF (cc := cJ3_checkIndex_8e157) (maxL := 3) (ret := some .int) (by decide +kernel) rfl ?_
  intro p e s m args below meth c s₁ B hml hv
  obtain ⟨rfl, -⟩ := hv
  have hx := B.exec
  have hb := B.bytes
  have hlocks := B.notSynchronized
  have hc1 : fv.category = 1 := by rcases hfv with rfl | ⟨a, rfl⟩ <;> rfl
  have hl := lv_entry ([.int i, .int n, fv]) (n := 3) (by rcases hfv with rfl | ⟨a, rfl⟩ <;> exact Nat.le_of_ble_eq_true rfl)
  rw [lg_entry_eq]
  generalize (lg_sl ([.int i, .int n, fv]) ++ List.replicate (3 - (lg_sl ([.int i, .int n, fv])).length) Slot.unset).toArray = ls at hl ⊢
  have hl : lv_has ls 3 [(0, .int i), (1, .int n), (2, fv)] := hl
  refine lv_iload_n hx hb (by decide +kernel : decode cJ3_checkIndex_8e157 0 = .ok (.iload_n 0, 1)) rfl (lv_at hl 0 rfl) ?_
  refine lv_if_lt (tgt := 9) hx hb (by decide +kernel : decode cJ3_checkIndex_8e157 1 = .ok (.ifCond .lt 8, 3)) (by decide) (fun h => absurd h h0) (fun _ => ?_)
  refine lv_iload_n hx hb (by decide +kernel : decode cJ3_checkIndex_8e157 4 = .ok (.iload_n 0, 1)) rfl (lv_at hl 0 rfl) ?_
  refine lv_iload_n hx hb (by decide +kernel : decode cJ3_checkIndex_8e157 5 = .ok (.iload_n 1, 1)) rfl (lv_at hl 1 rfl) ?_
  refine lv_icmp_lt (tgt := 16) hx hb (by decide +kernel : decode cJ3_checkIndex_8e157 6 = .ok (.if_icmp .lt 10, 3)) (by decide) (fun _ => ?_) (fun h => absurd h1 h)
  refine lv_iload_n hx hb (by decide +kernel : decode cJ3_checkIndex_8e157 16 = .ok (.iload_n 0, 1)) rfl (lv_at hl 0 rfl) ?_
  exact W.zret hx hb B.returns rfl (fun t ht hW => ⟨_, rfl, rfl, ht⟩) (fun _ h => by cases h) (by decide +kernel : decode cJ3_checkIndex_8e157 17 = .ok (.ireturn, 1))
set_option maxHeartbeats 4000000 in
set_option maxRecDepth 100000 in
/-- String.checkIndex(i, n), i in range -/
theorem st_chk (l : Launch) (k v d : Nat) (A : Nat → Prop) (i n : Int32) (h0 : ¬ i < 0) (h1 : i < n) (hd : 1 ≤ d) : Met l yJ0_checkIndex_df160 (st_ws yJ0_checkIndex_df160 cJ0_checkIndex_df160 2 none) (sw_rm d) (va_Pc [.int i, .int n] (st_P k v A)) (va_Sv (fun _ => True)) 0 0 (fun _ => False) := by
  refine va_MetF (cc := cJ0_checkIndex_df160) (maxL := 2) (ret := none) (by decide +kernel) rfl ?_
  intro p e s m args below meth c s₁ B hml hv
  obtain ⟨rfl, hZP⟩ := hv
  obtain ⟨hZ, hC, hF⟩ := id hZP
  have hx := B.exec
  have hb := B.bytes
  have hts := atoms_spec (ws := st_ws yJ0_checkIndex_df160 cJ0_checkIndex_df160 2 none) B.pre
  have htT : ∀ w ∈ sw_T, w.before ([.int i, .int n] : List Value).toArray s = true := fun w hw => hts w (List.mem_cons_of_mem _ hw)
  have hown : s.vm.findClass "java/lang/String" = some m.cls := findClass_of_methodNamed B.named
  have hlocks := B.notSynchronized
  have hS : va_S A s.heap s.heap [] := va_S.rf
  have hl := lv_entry ([.int i, .int n]) (n := 2) (Nat.le_of_ble_eq_true rfl)
  rw [lg_entry_eq]
  generalize (lg_sl ([.int i, .int n]) ++ List.replicate (2 - (lg_sl ([.int i, .int n])).length) Slot.unset).toArray = ls at hl ⊢
  have hl : lv_has ls 2 [(0, .int i), (1, .int n)] := hl
  refine lv_iload_n hx hb (by decide +kernel : decode cJ0_checkIndex_df160 0 = .ok (.iload_n 0, 1)) rfl (lv_at hl 0 rfl) ?_
  refine lv_iload_n hx hb (by decide +kernel : decode cJ0_checkIndex_df160 1 = .ok (.iload_n 1, 1)) rfl (lv_at hl 1 rfl) ?_
  have hfv : ∃ fv : Value, (fv = .null ∨ ∃ a, fv = .ref a) ∧ va_Z "jdk/internal/util/Preconditions" "SIOOBE_FORMATTER" "Ljava/util/function/BiFunction;" fv A s s.heap := by
    rcases hF with h | ⟨t, h⟩
    · exact ⟨_, Or.inl rfl, h⟩
    · exact ⟨_, Or.inr ⟨t, rfl⟩, h⟩
  obtain ⟨fv, hfv, hF⟩ := hfv
  have hc1 : fv.category = 1 := by rcases hfv with rfl | ⟨a, rfl⟩ <;> rfl
  refine va_gets hx hb hF hS hown (htT (.fieldLink "java/lang/String" 1053 "jdk/internal/util/Preconditions" "SIOOBE_FORMATTER" "Ljava/util/function/BiFunction;") (sw_T_at 670 (by decide +kernel))) (fun _ h => h) (by decide +kernel : decode cJ0_checkIndex_df160 2 = .ok (.getstatic 1053, 3)) ?_
  have hrun := va_runS (As := [.int i, .int n, fv]) (rest := []) (g := F0 m 5 ls [fv, .int n, .int i]) (below := below) (locs := []) (cells := 0) (slots := 0) (e := e) (meth := meth) (R := sw_rm d) (H := s.heap) ⟨hx, hb, hml, hown, htT⟩ (st_pre l 0 i n fv hfv h0 h1 (fun _ => True))
    (va_cwS 3 htT (st_S (sw_T_at 672 (by decide +kernel)) (sw_T_at 673 (by decide +kernel)) (sw_T_at 142 (by decide +kernel)) st_cI3) rfl rfl rfl ⟨by decide +kernel, by decide +kernel, by decide +kernel⟩ (show 0 + 1 ≤ d ∧ 8 + (3 + 11) + 70 * 0 ≤ 70 * d by omega))
    ⟨fun _ _ _ _ q => q, fun U hU hW => ⟨rfl, trivial⟩⟩ rfl rfl hl.1 rfl (lv_room (Nat.le_of_ble_eq_true rfl)) (by decide +kernel : decode cJ0_checkIndex_df160 5 = .ok (.invokestatic 1059, 3)) ⟨Nat.le_refl _, Nat.le_refl _⟩
  refine st_after hrun (fun r _ => ?_)
  refine lv_pop hx hb (by decide +kernel : decode cJ0_checkIndex_df160 8 = .ok (.pop, 1)) rfl ?_
  exact W.vret hx hb B.returns (fun t ht hW => ⟨rfl, trivial, ht⟩) (fun _ h => by cases h) (by decide +kernel : decode cJ0_checkIndex_df160 9 = .ok (.return_, 1))
theorem st_byte : ∀ j : Nat, j < 158 → ((sw_wl.getD j 0 &&& 255).toUInt32 % 65536).toInt32 = sw_wl.getD j 0 ∧ narrow .char (.int (sw_wl.getD j 0)) = .int (sw_wl.getD j 0) := by decide +kernel
set_option maxHeartbeats 4000000 in
set_option maxRecDepth 100000 in
/-- StringLatin1.charAt(value, i) -/
theorem st_l1 (l : Launch) (k v d : Nat) (A : Nat → Prop) (i : Int32) (hi : vp_in i 158) (hd : 2 ≤ d) : Met l yJ1_charAt_3b067 (st_ws yJ1_charAt_3b067 cJ1_charAt_3b067 2 (some .char)) (sw_rm d) (va_Pc [.ref v, .int i] (st_P k v A)) (vp_Si (fun r => r = sw_wl.getD i.toNatClampNeg 0)) 0 0 (fun _ => False) := by
  refine va_MetF (cc := cJ1_charAt_3b067) (maxL := 2) (ret := some .char) (by decide +kernel) rfl ?_
  intro p e s m args below meth c s₁ B hml hv
  obtain ⟨rfl, hZP⟩ := hv
  obtain ⟨hZ, hC, hF⟩ := id hZP
  have hx := B.exec
  have hb := B.bytes
  have hts := atoms_spec (ws := st_ws yJ1_charAt_3b067 cJ1_charAt_3b067 2 (some .char)) B.pre
  have htT : ∀ w ∈ sw_T, w.before ([.ref v, .int i] : List Value).toArray s = true := fun w hw => hts w (List.mem_cons_of_mem _ hw)
  have hown : s.vm.findClass "java/lang/StringLatin1" = some m.cls := findClass_of_methodNamed B.named
  have hlocks := B.notSynchronized
  have hS : va_S A s.heap s.heap [] := va_S.rf
  obtain ⟨j, hj, ej⟩ := vp_in_of hi (by decide)
  have e1 : i.toNatClampNeg = j := by rw [ej]; exact nI_clamp (by omega)
  have hl := lv_entry ([.ref v, .int i]) (n := 2) (Nat.le_of_ble_eq_true rfl)
  rw [lg_entry_eq]
  generalize (lg_sl ([.ref v, .int i]) ++ List.replicate (2 - (lg_sl ([.ref v, .int i])).length) Slot.unset).toArray = ls at hl ⊢
  have hl : lv_has ls 2 [(0, .ref v), (1, .int i)] := hl
  refine lv_iload_n hx hb (by decide +kernel : decode cJ1_charAt_3b067 0 = .ok (.iload_n 1, 1)) rfl (lv_at hl 1 rfl) ?_
  refine lv_aload_n hx hb (by decide +kernel : decode cJ1_charAt_3b067 1 = .ok (.aload_n 0, 1)) rfl (lv_at hl 0 rfl) ?_
  refine va_tlen (v := 158) hx hb (hZ.1 0 (by decide)).2.2.2 hS (by decide) (by decide +kernel : decode cJ1_charAt_3b067 2 = .ok (.arraylength, 1)) ?_
  have hrun := va_runS (As := [.int i, .int 158]) (rest := []) (g := F0 m 3 ls [.int 158, .int i]) (below := below) (locs := []) (cells := 0) (slots := 0) (e := e) (meth := meth) (R := sw_rm d) (H := s.heap) ⟨hx, hb, hml, hown, htT⟩ (st_chk l k v 1 A i 158 (by rw [ej]; exact nI_pos (by omega)) (by rw [ej]; exact nI_lt (b := 158) hj (by omega)) (Nat.le_refl _))
    (va_cwS 2 htT (st_S (sw_T_at 667 (by decide +kernel)) (sw_T_at 668 (by decide +kernel)) (sw_T_at 140 (by decide +kernel)) st_cI4) rfl rfl rfl ⟨by decide +kernel, by decide +kernel, by decide +kernel⟩ (show 1 + 1 ≤ d ∧ 8 + (2 + 11) + 70 * 1 ≤ 70 * d by omega))
    ⟨st_blind, fun U hU hW => ⟨rfl, st_mv hZP hW hU hS⟩⟩ rfl rfl hl.1 rfl (lv_room (Nat.le_of_ble_eq_true rfl)) (by decide +kernel : decode cJ1_charAt_3b067 3 = .ok (.invokestatic 9, 3)) ⟨Nat.le_refl _, Nat.le_refl _⟩
  refine st_afterv hrun ?_
  refine lv_aload_n hx hb (by decide +kernel : decode cJ1_charAt_3b067 6 = .ok (.aload_n 0, 1)) rfl (lv_at hl 0 rfl) ?_
  refine lv_iload_n hx hb (by decide +kernel : decode cJ1_charAt_3b067 7 = .ok (.iload_n 1, 1)) rfl (lv_at hl 1 rfl) ?_
  refine va_tb hx hb (hZ.1 0 (by decide)).2.2.2 hS hi rfl (by decide +kernel : decode cJ1_charAt_3b067 8 = .ok (.baload, 1)) ?_
  refine lv_sipush (v := 255) hx hb (by decide +kernel : decode cJ1_charAt_3b067 9 = .ok (.sipush 255, 3)) (by decide) ?_
  refine lv_iand hx hb (by decide +kernel : decode cJ1_charAt_3b067 12 = .ok (.iand, 1)) ?_
  refine lv_i2c hx hb (by decide +kernel : decode cJ1_charAt_3b067 13 = .ok (.i2c, 1)) (v := sw_wl.getD i.toNatClampNeg 0) (by rw [e1]; exact (st_byte j hj).1) ?_
  exact W.zret hx hb B.returns (by rw [e1]; exact (st_byte j hj).2) (fun t ht hW => ⟨_, rfl, rfl, ht⟩) (fun _ h => by cases h) (by decide +kernel : decode cJ1_charAt_3b067 14 = .ok (.ireturn, 1))
set_option maxHeartbeats 4000000 in
set_option maxRecDepth 100000 in
/-- charAt(i) -/
theorem st_charAt (l : Launch) (k v d : Nat) (A : Nat → Prop) (i : Int32) (hi : vp_in i 158) (hd : 3 ≤ d) : Met l yJ0_charAt_5068e (st_ws yJ0_charAt_5068e cJ0_charAt_5068e 2 (some .char)) (sw_rm d) (va_Pc [.ref k, .int i] (st_P k v A)) (vp_Si (fun r => r = sw_wl.getD i.toNatClampNeg 0)) 0 0 (fun _ => False) := by
  refine va_MetF (cc := cJ0_charAt_5068e) (maxL := 2) (ret := some .char) (by decide +kernel) rfl ?_
  intro p e s m args below meth c s₁ B hml hv
  obtain ⟨rfl, hZP⟩ := hv
  obtain ⟨hZ, hC, hF⟩ := id hZP
  have hx := B.exec
  have hb := B.bytes
  have hts := atoms_spec (ws := st_ws yJ0_charAt_5068e cJ0_charAt_5068e 2 (some .char)) B.pre
  have htT : ∀ w ∈ sw_T, w.before ([.ref k, .int i] : List Value).toArray s = true := fun w hw => hts w (List.mem_cons_of_mem _ hw)
  have hown : s.vm.findClass "java/lang/String" = some m.cls := findClass_of_methodNamed B.named
  have hlocks := B.notSynchronized
  have hS : va_S A s.heap s.heap [] := va_S.rf
  obtain ⟨j, hj, ej⟩ := vp_in_of hi (by decide)
  have e1 : i.toNatClampNeg = j := by rw [ej]; exact nI_clamp (by omega)
  have hl := lv_entry ([.ref k, .int i]) (n := 2) (Nat.le_of_ble_eq_true rfl)
  rw [lg_entry_eq]
  generalize (lg_sl ([.ref k, .int i]) ++ List.replicate (2 - (lg_sl ([.ref k, .int i])).length) Slot.unset).toArray = ls at hl ⊢
  have hl : lv_has ls 2 [(0, .ref k), (1, .int i)] := hl
  refine lv_aload_n hx hb (by decide +kernel : decode cJ0_charAt_5068e 0 = .ok (.aload_n 0, 1)) rfl (lv_at hl 0 rfl) ?_
  have hrun := va_runV (As := []) (b := k) (C := "java/lang/String") (rest := []) (g := F0 m 1 ls [.ref k]) (below := below) (locs := []) (cells := 0) (slots := 0) (e := e) (meth := meth) (R := sw_rm d) (H := s.heap) ⟨hx, hb, hml, hown, htT⟩ (st_isLatin1 l k v 0 A)
    (cwV 0 htT (st_V (sw_T_at 660 (by decide +kernel)) (sw_T_at 661 (by decide +kernel)) (sw_T_at 662 (by decide +kernel)) (sw_T_at 140 (by decide +kernel)) st_cI1) rfl rfl rfl ⟨rfl, by decide +kernel, by decide +kernel, by decide +kernel⟩ (show 0 + 1 ≤ d ∧ 8 + (1 + 11) + 70 * 0 ≤ 70 * d by omega))
    ⟨st_blind, vk_recv (i := 0) hZ (by decide) hS, fun U hU hW => ⟨rfl, st_mv hZP hW hU hS⟩⟩ rfl rfl hl.1 rfl (lv_room (Nat.le_of_ble_eq_true rfl)) (by decide +kernel : decode cJ0_charAt_5068e 1 = .ok (.invokevirtual 492, 3)) ⟨Nat.le_refl _, Nat.le_refl _⟩
  refine st_after hrun (fun r hr0 => ?_)
  subst hr0
  refine lv_if_eq (tgt := 16) hx hb (by decide +kernel : decode cJ0_charAt_5068e 4 = .ok (.ifCond .eq 12, 3)) (by decide) (fun h => absurd h (by decide)) (fun _ => ?_)
  refine lv_aload_n hx hb (by decide +kernel : decode cJ0_charAt_5068e 7 = .ok (.aload_n 0, 1)) rfl (lv_at hl 0 rfl) ?_
  refine vk_getf hx hb (hZ.1 0 (by decide)).2.2.1 hS hown (htT (.fieldLink "java/lang/String" 9 "java/lang/String" "value" "[B") (sw_T_at 2167 (by decide +kernel))) (fun _ h => h) (by decide +kernel : decode cJ0_charAt_5068e 8 = .ok (.getfield 9, 3)) ?_
  refine lv_iload_n hx hb (by decide +kernel : decode cJ0_charAt_5068e 11 = .ok (.iload_n 1, 1)) rfl (lv_at hl 1 rfl) ?_
  have hrun := va_runS (As := [.ref v, .int i]) (rest := []) (g := F0 m 12 ls [.int i, .ref v]) (below := below) (locs := []) (cells := 0) (slots := 0) (e := e) (meth := meth) (R := sw_rm d) (H := s.heap) ⟨hx, hb, hml, hown, htT⟩ (st_l1 l k v 2 A i hi (Nat.le_refl _))
    (va_cwS 2 htT (st_S (sw_T_at 664 (by decide +kernel)) (sw_T_at 665 (by decide +kernel)) (sw_T_at 141 (by decide +kernel)) st_cI5) rfl rfl rfl ⟨by decide +kernel, by decide +kernel, by decide +kernel⟩ (show 2 + 1 ≤ d ∧ 8 + (2 + 11) + 70 * 2 ≤ 70 * d by omega))
    ⟨st_blind, fun U hU hW => ⟨rfl, st_mv hZP hW hU hS⟩⟩ rfl rfl hl.1 rfl (lv_room (Nat.le_of_ble_eq_true rfl)) (by decide +kernel : decode cJ0_charAt_5068e 12 = .ok (.invokestatic 495, 3)) ⟨Nat.le_refl _, Nat.le_refl _⟩
  refine st_after hrun (fun r hr0 => ?_)
  subst hr0
  exact W.zret hx hb B.returns (by rw [e1]; exact (st_byte j hj).2) (fun t ht hW => ⟨_, rfl, rfl, ht⟩) (fun _ h => by cases h) (by decide +kernel : decode cJ0_charAt_5068e 15 = .ok (.ireturn, 1))
section st_so
variable {E : sw_E} {G : sw_G} {M : sw_M} {d pc : Nat} {L : sw_L} {st : List Value} {σ : sw_St} {Q : Option Value → sw_St → Prop}
theorem st_of {s : State} {A : Nat → Prop} (h : sw_Z s A) : ∃ k v : Nat, vk_R "StrayWool$Reader" 54 "field lure gap to miles shut sheep at curious lures stays worth storm wool day seen crimp led number or and not all min max first last often total most least " k s ∧ st_P k v A s := by
  obtain ⟨adK, adV, h1, h2, h3, h4⟩ := h
  refine ⟨adK 0, adV 0, h1, ⟨fun i hi => ?_, fun i j hi hj _ => by omega⟩, h3, h4⟩
  have : i = 0 := by omega
  subst this
  exact h2.1 0 hi
theorem so_strlen (hM : sw_nm M.2.2.2.2 = "StrayWool$Reader") (hd1 : decode M.2.1 pc = .ok (.ldc 54, 2)) (hd2 : decode M.2.1 (pc + 2) = .ok (.invokevirtual 56, 3)) (hst : (st.map fun v => v.category).sum ≤ 8) (hd : 4 ≤ d) (k : sw_W E G M d (pc + 5) L (.int 158 :: st) σ Q) : sw_W E G M d pc L st σ Q := by
  intro p e s m args below meth c C A H locs ls hA hP hD hS hl
  obtain ⟨kk, vv, hR, hZP⟩ := st_of hA.2
  have hown : s.vm.findClass "StrayWool$Reader" = some m.cls := by rw [← hM]; exact C.2.2.2.2.1
  refine va_ldcS C.1 C.2.1 hown hR hd1 ?_
  have hrun := va_runV (As := []) (b := kk) (C := "java/lang/String") (rest := st.map (sw_cv E.2.2.1)) (g := F0 m (pc + 2) ls (.ref kk :: st.map (sw_cv E.2.2.1))) (below := below) (locs := locs) (cells := 0) (slots := 0) (e := e) (meth := meth) (R := sw_rm d) (H := H) ⟨C.1, C.2.1, C.2.2.1, hown, C.2.2.2.2.2.1⟩ (st_length E.1 kk vv 1 A (Nat.le_refl _))
    (cwV 0 C.2.2.2.2.2.1 (st_V (sw_T_at 646 (by decide +kernel)) (sw_T_at 647 (by decide +kernel)) (sw_T_at 648 (by decide +kernel)) (sw_T_at 140 (by decide +kernel)) st_cI2) rfl rfl rfl ⟨rfl, by decide +kernel, by decide +kernel, by decide +kernel⟩ (show 1 + 1 ≤ d ∧ 8 + (1 + 11) + 70 * 1 ≤ 70 * d by omega))
    ⟨st_blind, vk_recv (i := 0) hZP.1 (by decide) hS, fun U hU hW => ⟨rfl, st_mv hZP hW hU hS⟩⟩ rfl rfl hl.1 rfl (lv_room (by rw [sw_cats]; exact hst)) hd2 ⟨Nat.le_refl _, Nat.le_refl _⟩
  refine st_after hrun (fun r hr0 => ?_)
  subst hr0
  exact k p e s m args below meth c C A H locs ls hA hP hD hS hl
theorem so_strchar {x : Nat} {i : Int32} (hM : sw_nm M.2.2.2.2 = "StrayWool$Reader") (hd1 : decode M.2.1 pc = .ok (.ldc 54, 2)) (hd2 : decode M.2.1 (pc + 2) = .ok (.iload x, 2)) (hd3 : decode M.2.1 (pc + 4) = .ok (.invokevirtual 60, 3)) (hv : sw_lk L x = some (.int i)) (hi : vp_in i 158) (hst : (st.map fun v => v.category).sum ≤ 8) (hd : 4 ≤ d) (k : sw_W E G M d (pc + 7) L (.int (sw_wl.getD i.toNatClampNeg 0) :: st) σ Q) : sw_W E G M d pc L st σ Q := by
  intro p e s m args below meth c C A H locs ls hA hP hD hS hl
  obtain ⟨kk, vv, hR, hZP⟩ := st_of hA.2
  have hown : s.vm.findClass "StrayWool$Reader" = some m.cls := by rw [← hM]; exact C.2.2.2.2.1
  refine va_ldcS C.1 C.2.1 hown hR hd1 ?_
  refine lv_iload C.1 C.2.1 hd2 (sw_lk_has hv hl) ?_
  have hrun := va_runV (As := [.int i]) (b := kk) (C := "java/lang/String") (rest := st.map (sw_cv E.2.2.1)) (g := F0 m (pc + 4) ls (.int i :: .ref kk :: st.map (sw_cv E.2.2.1))) (below := below) (locs := locs) (cells := 0) (slots := 0) (e := e) (meth := meth) (R := sw_rm d) (H := H) ⟨C.1, C.2.1, C.2.2.1, hown, C.2.2.2.2.2.1⟩ (st_charAt E.1 kk vv 3 A i hi (Nat.le_refl _))
    (cwV 1 C.2.2.2.2.2.1 (st_V (sw_T_at 656 (by decide +kernel)) (sw_T_at 657 (by decide +kernel)) (sw_T_at 658 (by decide +kernel)) (sw_T_at 140 (by decide +kernel)) st_cI6) rfl rfl rfl ⟨rfl, by decide +kernel, by decide +kernel, by decide +kernel⟩ (show 3 + 1 ≤ d ∧ 8 + (2 + 11) + 70 * 3 ≤ 70 * d by omega))
    ⟨st_blind, vk_recv (i := 0) hZP.1 (by decide) hS, fun U hU hW => ⟨rfl, st_mv hZP hW hU hS⟩⟩ rfl rfl hl.1 rfl (lv_room (by rw [sw_cats]; exact hst)) hd3 ⟨Nat.le_refl _, Nat.le_refl _⟩
  refine st_after hrun (fun r hr0 => ?_)
  subst hr0
  exact k p e s m args below meth c C A H locs ls hA hP hD hS hl
end st_so

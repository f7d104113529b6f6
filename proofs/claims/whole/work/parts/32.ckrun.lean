/-! The closed run, and that it is the machine's. -/
section sc_call
variable {E : sw_E} {M N : sw_M} {d d' mcT msT n0 cells slots pc : Nat} {csF cs cs1 : List sc_C} {L : sw_L} {st av : List Value}
theorem sc_K.of (hy : plainName M.1.cls = true) (hnm : sw_nm M.2.2.2.2 = M.1.cls) (hl : (lg_sl av).length ≤ M.2.2.1) (h : sc_W E M d (csF.length - cs.length) (sc_sz csF - sc_sz cs) cs.length csF 0 0 0 (lv_args 0 av) [] cs) : sc_K E M d av cs csF := by
  intro a sz
  refine Met.ofW (cc := M.2.1) (maxL := M.2.2.1) (ret := M.2.2.2.1) hy rfl ?_
  intro p e s m args below meth c s₁ B hml hv
  obtain ⟨rfl, hsz, hP, hK, hD0, hN⟩ := hv
  have hts := atoms_spec (ws := sw_ws M) B.pre
  have hown : s.vm.findClass (sw_nm M.2.2.2.2) = some m.cls := by rw [hnm]; exact findClass_of_methodNamed B.named
  subst hsz
  have hD := hD0.self (sz := s.heap.size)
  have hA : ∀ q : Nat, s.heap.size ≤ q → va_A (sc_w a E.2.2.2 cs) s.heap.size q := fun q h => Or.inr h
  have hl' := lv_entry (av.map (sw_cv a)) (n := M.2.2.1) (by rw [sw_sl_map]; exact hl)
  rw [lg_entry_eq]
  rw [sw_args_map] at hl'
  exact h p e s m _ below meth c ⟨B.exec, B.bytes, hml, B.returns, hown, fun w hw => hts w (List.mem_cons_of_mem _ hw), B.notSynchronized, hK⟩ ⟨(name_of_methodNamed B.named B.method).1, hN⟩ a a _ s.heap [] _ (fun _ _ => rfl) (Nat.le_refl _) hA hP hD va_S.rf hl'
theorem sc_blind {a : Nat → Nat} {sz : Nat} : FrameBlind (va_Pc (av.map (sw_cv a)) (fun U => U.heap.size = sz ∧ va_P E.2.1 vwCl (sc_w a E.2.2.2 cs) U.heap ∧ va_K E.2.1 vwCl (sw_tys E) U ∧ va_D (fun _ => True) (sc_w a E.2.2.2 cs) ∧ sc_N U)) := by
  intro x U g mk q
  obtain ⟨q0, q1, qP, qK, qD, qN⟩ := q
  exact ⟨q0, q1, qP, va_K.moved (u := U) (U := U.calling g mk x) (Vm.Alike.refl U.vm) qK, qD, qN.calling g mk x⟩
/-- behind a call of a constructor -/
theorem sc_after {p : Program} {e : Env} {s : State} {m : MethodId} {args : Array Value} {below : List Frame} {meth : Method} {c : Code} {a0 a : Nat → Nat} {A : Nat → Prop} {H : Heap} {locs : List Loc} {ls : Array Slot} {st0 : List Value} {x : Array Value} {dc ds : Nat} (C : sw_C E M p s m args meth c) (hn : meth.name = M.1.name ∧ sc_N s) (h0 : ∀ i, i < n0 → a i = a0 i) (h1 : n0 ≤ cs.length) (hA : ∀ q, s.heap.size ≤ q → A q) (hS : va_S A s.heap H locs) (hl : lv_has ls M.2.2.1 (L.map fun q => (q.1, sw_cv a q.2)))
    (hmono : cs.length ≤ cs1.length) (hL : sc_okL cs.length L = true) (hst : st.all (sc_okv cs.length) = true) (hF : ∀ q, va_A (sc_w a E.2.2.2 cs) H.size q → A q)
    (k : sc_W E M d mcT msT n0 csF (cells + dc) (slots + ds) (pc + 3) L st cs1)
    (hr : va_Run p E.1 e (sc_rm d mcT msT) s m args below meth c H locs cells slots dc ds (F0 m pc ls st0) (st.map (sw_cv a)) (sc_Q E (va_A (sc_w a E.2.2.2 cs) H.size) a cs.length cs1 x) (va_A (sc_w a E.2.2.2 cs) H.size)) :
    W p E.1 e (sc_rm d mcT msT) s m args below meth c H locs cells slots (MQ below (sc_Q E A a0 n0 csF) args s mcT msT A) (F0 m pc ls st0) := by
  intro T hT X
  obtain ⟨v, st₀, t, T', Lc, g0, X', hLc, e1, e2, ⟨⟨hv, a', hag, hP, hK, hD⟩, hz, hk⟩, stp⟩ := hr T hT X
  cases hv
  rw [g0] at hz hk
  have hS1 : va_S A s.heap T'.heap (locs ++ Lc) := ⟨Nat.le_trans hS.1 (by rw [e1]; exact hz), fun q q1 q2 => by rw [e1, hk q (Nat.lt_of_lt_of_le q1 hS.1) (fun z => q2 (hF q z))]; exact hS.2.1 q q1 q2, fun q hq => by
      rcases List.mem_append.mp hq with h | h
      · exact hS.2.2 q h
      · exact hF _ (hLc q h)⟩
  have hw := k p e s m args below meth c C hn a0 a' A T'.heap (locs ++ Lc) ls (fun i hi => (hag i (Nat.lt_of_lt_of_le hi h1)).trans (h0 i hi)) (Nat.le_trans h1 hmono) hA (by rw [e1]; exact hP) (hD.weaken (fun _ q _ h => hF q.1 h)) hS1 (by rw [sc_L_eq hag hL]; exact hl)
  rw [sc_st_eq hag hst] at hw
  obtain ⟨t2, a1, b1⟩ := hw T' rfl X'
  exact ⟨t2, stp t2 a1, b1⟩
theorem sc_inA {a : Nat → Nat} {cA : Nat → ClassId} {A : Nat → Prop} {H0 H : Heap} {locs : List Loc} (hD : va_D A (sc_w a cA cs)) (hS : va_S A H0 H locs) (hA : ∀ q, H0.size ≤ q → A q) : ∀ q, va_A (sc_w a cA cs) H.size q → A q := by
  intro q h
  rcases h with ⟨k, e, h⟩ | h
  · exact hD.2 k (q, e) h
  · exact hA q (Nat.le_trans hS.1 h)
theorem sc_room (h : N.2.2.1 ≤ 40) (hd : d' < d) {a b x y : Nat} : (sc_rm d' a b).frames + 1 ≤ (sc_rm d x y).frames ∧ 8 + (N.2.2.1 + 11) + (sc_rm d' a b).locals ≤ (sc_rm d x y).locals := by
  refine ⟨?_, ?_⟩
  · show d' + 1 ≤ d
    omega
  · show 8 + (N.2.2.1 + 11) + 70 * d' ≤ 70 * d
    omega
theorem sd_call {i : Instr} {idx o n kd : Nat} {As : List Value} (hd : decode M.2.1 pc = .ok (i, 3)) (hi : (kd < 2 ∧ i = .invokespecial idx) ∨ (kd = 2 ∧ i = .invokevirtual idx)) (hg : sc_good M.2.2.2.2 idx N n kd) (hn0 : As.length = n) (ho : ∃ fs, cs[o]? = some (.inl (N.2.2.2.2, fs))) (hcat : (st.map fun v => v.category).sum ≤ 8) (hdd : d' < d)
    (hM : sc_K E N d' (.ref o :: As) cs cs1) (hmono : cs.length ≤ cs1.length) (hc : cells + (cs1.length - cs.length) ≤ mcT) (hs : slots + (sc_sz cs1 - sc_sz cs) ≤ msT) (hL : sc_okL cs.length L = true) (hst : st.all (sc_okv cs.length) = true)
    (k : sc_W E M d mcT msT n0 csF (cells + (cs1.length - cs.length)) (slots + (sc_sz cs1 - sc_sz cs)) (pc + 3) L st cs1) : sc_W E M d mcT msT n0 csF cells slots pc L (As.reverse ++ .ref o :: st) cs := by
  intro p e s m args below meth c C hnm a0 a A H locs ls h0 h1 hA hP hD hS hl
  obtain ⟨g1, g2, g3, g4, g5, g6, g7, g8⟩ := hg
  obtain ⟨fs, ho⟩ := ho
  have hF := sc_inA hD hS hA
  have hpre : ∀ U : State, U.heap = H → s.WarmedH U.vm → va_Pc ((Value.ref o :: As).map (sw_cv a)) (fun U => U.heap.size = H.size ∧ va_P E.2.1 vwCl (sc_w a E.2.2.2 cs) U.heap ∧ va_K E.2.1 vwCl (sw_tys E) U ∧ va_D (fun _ => True) (sc_w a E.2.2.2 cs) ∧ sc_N U) (Value.ref (a o) :: As.map (sw_cv a)).toArray U := fun U hU hW => ⟨rfl, by rw [hU], by rw [hU]; exact hP, va_K.moved hW.alike C.2.2.2.2.2.2.2, hD.weaken (fun _ _ _ _ => trivial), hnm.2.warm hW⟩
  have hstk : (F0 m pc ls ((As.reverse ++ .ref o :: st).map (sw_cv a))).stack = (As.map (sw_cv a)).reverse ++ .ref (a o) :: st.map (sw_cv a) := by simp [sw_cv]
  have hrm := sc_room (N := N) (a := cs1.length - cs.length) (b := sc_sz cs1 - sc_sz cs) (x := mcT) (y := msT) g1.2.2.1 hdd
  rcases g8 with ⟨k0, q1, q2⟩ | ⟨k1, q1, q2⟩ | ⟨k2, q1, q2⟩
  · have hi' : i = .invokespecial idx := by
      rcases hi with ⟨-, h⟩ | ⟨h, -⟩
      · exact h
      · omega
    subst hi'
    refine sc_after C hnm h0 h1 hA hS hl hmono hL hst hF k (va_runI (As := As.map (sw_cv a)) (rest := st.map (sw_cv a)) (b := a o) (maxL := N.2.2.1) (bytes := N.2.1) ⟨C.1, C.2.1, C.2.2.1, C.2.2.2.2.1, C.2.2.2.2.2.1⟩ (hM a H.size) (cwI n C.2.2.2.2.2.1 (sw_wsT g1) (by rw [← g3]; rfl) rfl rfl (C.2.2.2.2.2.1 _ g1.2.1) (C.2.2.2.2.2.1 _ q2) (C.2.2.2.2.2.1 _ g2) q1 ⟨g1.2.2.2.1, g1.2.2.2.2, g4⟩ hrm) ⟨sc_blind, hpre⟩ rfl (by rw [List.length_map]; exact hn0) hl.1 hstk (lv_room (by rw [sw_cats]; exact hcat)) hd ⟨hc, hs⟩)
  · have hi' : i = .invokespecial idx := by
      rcases hi with ⟨-, h⟩ | ⟨h, -⟩
      · exact h
      · omega
    subst hi'
    refine sc_after C hnm h0 h1 hA hS hl hmono hL hst hF k (va_runIN (As := As.map (sw_cv a)) (rest := st.map (sw_cv a)) (b := a o) (maxL := N.2.2.1) (bytes := N.2.1) (host := "StrayWool") ⟨C.1, C.2.1, C.2.2.1, C.2.2.2.2.1, C.2.2.2.2.2.1⟩ (hM a H.size) ⟨va_cnB n C.2.2.2.2.2.1 (sw_wsT g1) (by rw [← g3]; rfl) rfl rfl (hnm.2.1 _ q2) (C.2.2.2.2.2.1 _ g1.2.1) ⟨g1.2.2.2.1, g1.2.2.2.2, g4⟩ hrm, q1, C.2.2.2.2.2.1 _ g2⟩ ⟨sc_blind, hpre⟩ rfl (by rw [List.length_map]; exact hn0) hl.1 hstk (lv_room (by rw [sw_cats]; exact hcat)) hd ⟨hc, hs⟩)
  · have hi' : i = .invokevirtual idx := by
      rcases hi with ⟨h, -⟩ | ⟨-, h⟩
      · omega
      · exact h
    subst hi'
    obtain ⟨V, hV⟩ : ∃ V, vwCl[N.2.2.2.2]? = some V := ⟨_, List.getElem?_eq_getElem (show N.2.2.2.2 < vwCl.length from g7)⟩
    have hrc := va_recv C.2.2.2.2.2.2.2 hP (ci := N.2.2.2.2) (q0 := o) hV (sc_at_o ho)
    rw [sc_nm_vw hV, g6] at hrc
    have hG : GoodIn sw_T (wsV (sw_nm M.2.2.2.2) idx N.1.cls N.1 (sw_ws N)) := by
      intro w hw
      rcases List.mem_append.mp hw with h | h
      · simp only [List.mem_cons, List.not_mem_nil, or_false] at h
        rcases h with rfl | rfl | rfl | rfl
        · exact sw_goodT _ q2
        · exact sw_goodT _ g2
        · exact sw_goodT _ q1
        · exact sw_goodT _ g1.2.1
      · exact sw_wsT g1 w h
    refine sc_after C hnm h0 h1 hA hS hl hmono hL hst hF k (va_runV (As := As.map (sw_cv a)) (rest := st.map (sw_cv a)) (b := a o) ⟨C.1, C.2.1, C.2.2.1, C.2.2.2.2.1, C.2.2.2.2.2.1⟩ (hM a H.size) (cwV n C.2.2.2.2.2.1 hG rfl rfl rfl ⟨rfl, g1.2.2.2.1, g1.2.2.2.2, g4⟩ hrm) ⟨sc_blind, hrc, hpre⟩ rfl (by rw [List.length_map]; exact hn0) hl.1 hstk (lv_room (by rw [sw_cats]; exact hcat)) hd ⟨hc, hs⟩)
end sc_call

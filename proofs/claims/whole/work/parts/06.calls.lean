/-! Contracts: a method's own out of its walk; a call by its contract. -/
section sw_calls
variable {E : sw_E} {G : sw_G} {M N : sw_M} {d d' pc : Nat} {L : sw_L} {st av : List Value} {σ : sw_St} {Q Q' : Option Value → sw_St → Prop}
theorem sw_sl_map (a : Nat → Nat) (av : List Value) : (lg_sl (av.map (sw_cv a))).length = (lg_sl av).length := by
  induction av with
  | nil => rfl
  | cons v r ih => simp only [lg_sl, List.map_cons, List.flatMap_cons, List.length_append, sw_cv_cat] at ih ⊢; rw [ih]; split <;> rfl
theorem sw_args_map (a : Nat → Nat) (av : List Value) : ∀ i, lv_args i (av.map (sw_cv a)) = (lv_args i av).map fun q => (q.1, sw_cv a q.2) := by
  induction av with
  | nil => intro i; rfl
  | cons v r ih => intro i; simp only [List.map_cons, lv_args, sw_cv_cat, ih]
theorem sw_K.of (hy : plainName M.1.cls = true) (hn : sw_nm M.2.2.2.2 = M.1.cls) (hl : (lg_sl av).length ≤ M.2.2.1) (h : sw_W E G M d 0 (lv_args 0 av) [] σ Q) : sw_K E G M d av σ Q := by
  intro sz
  refine Met.ofW (cc := M.2.1) (maxL := M.2.2.1) (ret := M.2.2.2.1) hy rfl ?_
  intro p e s m args below meth c s₁ B hml hv
  obtain ⟨rfl, hsz, hP, hK, hD0, hZ⟩ := hv
  have hts := atoms_spec (ws := sw_ws M) B.pre
  have hown : s.vm.findClass (sw_nm M.2.2.2.2) = some m.cls := by rw [hn]; exact findClass_of_methodNamed B.named
  subst hsz
  have hD := hD0.self (sz := s.heap.size)
  have hA : sw_HA s (va_A (sw_w E G σ) s.heap.size) := ⟨fun q h => Or.inr h, hZ⟩
  have hl' := lv_entry (av.map (sw_cv E.2.2.1)) (n := M.2.2.1) (by rw [sw_sl_map]; exact hl)
  rw [lg_entry_eq]
  rw [sw_args_map] at hl'
  exact h p e s m _ below meth c ⟨B.exec, B.bytes, hml, B.returns, hown, fun w hw => hts w (List.mem_cons_of_mem _ hw), B.notSynchronized, hK⟩ _ s.heap [] _ hA hP hD va_S.rf hl'
/-- behind a call, by what it answers -/
theorem sw_after {p : Program} {l : Launch} {e : Env} {R : Room} {s : State} {m : MethodId} {args : Array Value} {below : List Frame} {meth : Method} {c : Code} {H : Heap} {locs : List Loc} {Qz : State → Prop} {ls : Array Slot} {st0 rest : List Value} {a : Array Value} {A0 A1 : Nat → Prop} {H0 : Heap}
    (hr : va_Run p l e R s m args below meth c H locs 0 0 0 0 (F0 m pc ls st0) rest (sw_Q E G A1 Q' a) A1) (hS : va_S A0 H0 H locs) (hA : ∀ q, A1 q → A0 q)
    (kk : ∀ (r : Option Value) (σ' : sw_St) (H1 : Heap) (locs1 : List Loc), Q' r σ' → va_P E.2.1 vwCl (sw_w E G σ') H1 → va_D A0 (sw_w E G σ') → va_S A0 H0 H1 locs1 → W p l e R s m args below meth c H1 locs1 0 0 Qz (F0 m (pc + 3) ls ((r.map (sw_cv E.2.2.1)).toList ++ rest))) :
    W p l e R s m args below meth c H locs 0 0 Qz (F0 m pc ls st0) := by
  intro T hT X
  obtain ⟨v, st₀, t, T', Lc, h0, X', hL, e1, e2, ⟨⟨r, σ', hv, hq, hP, hK, hD⟩, hz, hk⟩, stp⟩ := hr T hT X
  cases hv
  rw [h0] at hz hk
  obtain ⟨t2, a1, b1⟩ := kk r σ' T'.heap (locs ++ Lc) hq (by rw [e1]; exact hP) (hD.weaken (fun _ q _ h => hA q.1 h))
    ⟨Nat.le_trans hS.1 (by rw [e1]; exact hz), fun q h1 h2 => by rw [e1, hk q (Nat.lt_of_lt_of_le h1 hS.1) (fun z => h2 (hA q z))]; exact hS.2.1 q h1 h2, fun q hq => by
      rcases List.mem_append.mp hq with h | h
      · exact hS.2.2 q h
      · exact hA _ (hL q h)⟩ T' rfl X'
  exact ⟨t2, stp t2 a1, b1⟩
theorem sw_goodT : ∀ w ∈ sw_T, w ∈ sw_T ∧ ((w.onTables && w.keeps) = true ∨ ∃ ty, w = .arrayClass ty) := fun w hw => ⟨hw, good_of_word (List.mem_filter.mp hw).2⟩
/-- what a method must have to be called: its words -/
def sw_ok (N : sw_M) : Prop := Cond.code N.1 N.2.1 N.2.2.1 N.2.2.2.1 ∈ sw_T ∧ Cond.initialized N.1.cls ∈ sw_T ∧ N.2.2.1 ≤ 40 ∧ (N.1.cls ≠ "java/lang/invoke/MethodHandle" ∧ N.1.cls ≠ "java/lang/invoke/VarHandle")
def sw_okV (N : sw_M) : Prop := sw_ok N ∧ Cond.instanceMethod N.1 ∈ sw_T ∧ Cond.selects N.1.cls N.1 N.1 ∈ sw_T
def sw_okS (N : sw_M) : Prop := sw_ok N ∧ Cond.static N.1 ∈ sw_T
theorem sw_wsT (h : sw_ok N) : GoodIn sw_T (sw_ws N) := by
  intro w hw
  rcases List.mem_cons.mp hw with rfl | hw
  · exact sw_goodT _ h.1
  · exact sw_goodT _ hw
theorem sw_pc {E : sw_E} {G : sw_G} {σ : sw_St} {sz : Nat} {av : List Value} : FrameBlind (va_Pc av (fun U => U.heap.size = sz ∧ va_P E.2.1 vwCl (sw_w E G σ) U.heap ∧ va_K E.2.1 vwCl (sw_tys E) U ∧ va_D (fun _ => True) (sw_w E G σ) ∧ sw_Z U (va_A (sw_w E G σ) sz))) := by
  intro a U g mk q
  obtain ⟨q0, q1, qP, qK, qD, qZ⟩ := q
  exact ⟨q0, q1, qP, va_K.moved (u := U) (U := U.calling g mk a) (Vm.Alike.refl U.vm) qK, qD, qZ.calling g mk a⟩
theorem sw_room (h : N.2.2.1 ≤ 40) (hd : d' < d) : (sw_rm d').frames + 1 ≤ (sw_rm d).frames ∧ 8 + (N.2.2.1 + 11) + (sw_rm d').locals ≤ (sw_rm d).locals := by
  refine ⟨?_, ?_⟩
  · show d' + 1 ≤ d
    omega
  · show 8 + (N.2.2.1 + 11) + 70 * d' ≤ 70 * d
    omega
theorem sw_inA {A : Nat → Prop} {H0 H : Heap} {locs : List Loc} (hD : va_D A (sw_w E G σ)) (hS : va_S A H0 H locs) (hA : ∀ q, H0.size ≤ q → A q) : ∀ q, va_A (sw_w E G σ) H.size q → A q := by
  intro q h
  rcases h with ⟨k, e, h⟩ | h
  · exact hD.2 k (q, e) h
  · exact hA q (Nat.le_trans hS.1 h)
theorem sw_cats (a : Nat → Nat) (st : List Value) : ((st.map (sw_cv a)).map fun v => v.category).sum = (st.map fun v => v.category).sum := by
  rw [List.map_map]
  congr 2
  funext v
  exact sw_cv_cat a v
theorem so_callV {idx o n : Nat} {As : List Value} (hd : decode M.2.1 pc = .ok (.invokevirtual idx, 3)) (hlk : Cond.methodLink (sw_nm M.2.2.2.2) idx N.1 ∈ sw_T) (hok : sw_okV N) (hcl : sw_nm N.2.2.2.2 = N.1.cls) (hnc : N.2.2.2.2 < 12) (hpd : (parseMethodDescriptor N.1.desc).map (fun d => d.parameters.length) = some n) (hn : As.length = n)
    (ho : sw_isO G o N.2.2.2.2 = true) (hst : (st.map fun v => v.category).sum ≤ 8) (hdd : d' < d) (hM : sw_K E G N d' (.ref o :: As) σ Q') (k : ∀ r σ', Q' r σ' → sw_W E G M d (pc + 3) L (r.toList ++ st) σ' Q) : sw_W E G M d pc L (As.reverse ++ .ref o :: st) σ Q := by
  intro p e s m args below meth c C A H locs ls hA hP hD hS hl
  obtain ⟨g1, g2⟩ := sw_isO_sp ho
  have hat := sw_w_at (E := E) (σ := σ) g1
  rw [sw_cell_o g2] at hat
  have hF := sw_inA hD hS hA.1
  obtain ⟨V, hV⟩ : ∃ V, vwCl[N.2.2.2.2]? = some V := by
    have : N.2.2.2.2 < vwCl.length := hnc
    exact ⟨_, List.getElem?_eq_getElem this⟩
  have hVn : V.1 = N.1.cls := by
    rw [← hcl]
    revert hV hnc
    generalize N.2.2.2.2 = i
    intro hnc hV
    match i, hV, hnc with
    | 0, hV, _ | 1, hV, _ | 2, hV, _ | 3, hV, _ | 4, hV, _ | 5, hV, _ | 6, hV, _ | 7, hV, _ | 8, hV, _ | 9, hV, _ | 10, hV, _ | 11, hV, _ => cases hV; rfl
    | i + 12, _, h => omega
  have hrc := va_recv C.2.2.2.2.2.2.2 hP (ci := N.2.2.2.2) (q0 := o) hV hat
  rw [hVn] at hrc
  have hG : GoodIn sw_T (wsV (sw_nm M.2.2.2.2) idx N.1.cls N.1 (sw_ws N)) := by
    intro w hw
    rcases List.mem_append.mp hw with h | h
    · simp only [List.mem_cons, List.not_mem_nil, or_false] at h
      rcases h with rfl | rfl | rfl | rfl
      · exact sw_goodT _ hlk
      · exact sw_goodT _ hok.2.1
      · exact sw_goodT _ hok.2.2
      · exact sw_goodT _ hok.1.2.1
    · exact sw_wsT hok.1 w h
  have hrun := va_runV (As := As.map (sw_cv E.2.2.1)) (rest := st.map (sw_cv E.2.2.1)) (g := F0 m pc ls ((As.reverse ++ .ref o :: st).map (sw_cv E.2.2.1))) (below := below) (locs := locs) (cells := 0) (slots := 0) (e := e) (meth := meth) (R := sw_rm d) ⟨C.1, C.2.1, C.2.2.1, C.2.2.2.2.1, C.2.2.2.2.2.1⟩ (hM H.size)
    (cwV n C.2.2.2.2.2.1 hG rfl rfl rfl ⟨rfl, hok.1.2.2.2.1, hok.1.2.2.2.2, hpd⟩ (sw_room hok.1.2.2.1 hdd))
    ⟨sw_pc, hrc, fun U hU hW => ⟨rfl, by rw [hU], by rw [hU]; exact hP, va_K.moved hW.alike C.2.2.2.2.2.2.2, hD.weaken (fun _ _ _ _ => trivial), hA.2.mv hW hU hS hF⟩⟩ rfl (by rw [List.length_map]; exact hn) hl.1 (by simp [sw_cv]) (lv_room (by rw [sw_cats]; exact hst)) hd ⟨Nat.le_refl _, Nat.le_refl _⟩
  refine sw_after hrun hS hF (fun r σ' H1 locs1 hq hP1 hD1 hS1 => ?_)
  have h2 := k r σ' hq p e s m args below meth c C A H1 locs1 ls hA hP1 hD1 hS1 hl
  have e3 : (Option.map (sw_cv E.2.2.1) r).toList ++ st.map (sw_cv E.2.2.1) = (r.toList ++ st).map (sw_cv E.2.2.1) := by
    cases r <;> simp
  rw [e3]
  exact h2
theorem so_callS {idx n : Nat} {As : List Value} (hd : decode M.2.1 pc = .ok (.invokestatic idx, 3)) (hlk : Cond.methodLink (sw_nm M.2.2.2.2) idx N.1 ∈ sw_T) (hok : sw_okS N) (hpd : (parseMethodDescriptor N.1.desc).map (fun d => d.parameters.length) = some n) (hn : As.length = n)
    (hst : (st.map fun v => v.category).sum ≤ 8) (hdd : d' < d) (hM : sw_K E G N d' As σ Q') (k : ∀ r σ', Q' r σ' → sw_W E G M d (pc + 3) L (r.toList ++ st) σ' Q) : sw_W E G M d pc L (As.reverse ++ st) σ Q := by
  intro p e s m args below meth c C A H locs ls hA hP hD hS hl
  have hF := sw_inA hD hS hA.1
  have hG : GoodIn sw_T (va_wsS (sw_nm M.2.2.2.2) idx N.1 (sw_ws N)) := by
    intro w hw
    rcases List.mem_append.mp hw with h | h
    · simp only [List.mem_cons, List.not_mem_nil, or_false] at h
      rcases h with rfl | rfl | rfl
      · exact sw_goodT _ hlk
      · exact sw_goodT _ hok.2
      · exact sw_goodT _ hok.1.2.1
    · exact sw_wsT hok.1 w h
  have hrun := va_runS (As := As.map (sw_cv E.2.2.1)) (rest := st.map (sw_cv E.2.2.1)) (g := F0 m pc ls ((As.reverse ++ st).map (sw_cv E.2.2.1))) (below := below) (locs := locs) (cells := 0) (slots := 0) (e := e) (meth := meth) (R := sw_rm d) ⟨C.1, C.2.1, C.2.2.1, C.2.2.2.2.1, C.2.2.2.2.2.1⟩ (hM H.size)
    (va_cwS n C.2.2.2.2.2.1 hG rfl rfl rfl ⟨hok.1.2.2.2.1, hok.1.2.2.2.2, hpd⟩ (sw_room hok.1.2.2.1 hdd))
    ⟨sw_pc, fun U hU hW => ⟨rfl, by rw [hU], by rw [hU]; exact hP, va_K.moved hW.alike C.2.2.2.2.2.2.2, hD.weaken (fun _ _ _ _ => trivial), hA.2.mv hW hU hS hF⟩⟩ rfl (by rw [List.length_map]; exact hn) hl.1 (by simp) (lv_room (by rw [sw_cats]; exact hst)) hd ⟨Nat.le_refl _, Nat.le_refl _⟩
  refine sw_after hrun hS hF (fun r σ' H1 locs1 hq hP1 hD1 hS1 => ?_)
  have h2 := k r σ' hq p e s m args below meth c C A H1 locs1 ls hA hP1 hD1 hS1 hl
  have e3 : (Option.map (sw_cv E.2.2.1) r).toList ++ st.map (sw_cv E.2.2.1) = (r.toList ++ st).map (sw_cv E.2.2.1) := by
    cases r <;> simp
  rw [e3]
  exact h2
end sw_calls

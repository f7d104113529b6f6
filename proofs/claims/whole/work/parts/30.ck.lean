/-! The constructors: they read nothing from outside, so their run is closed and computed; here is that the computed run is the machine's. -/
abbrev sc_C : Type := (Nat × List Value) ⊕ (Nat × Nat × List (Nat × Value))
def sc_at (u : List (Nat × Value)) (k : Nat) : Option Value := match u with
  | [] => none
  | q :: r => if q.1 = k then some q.2 else sc_at r k
def sc_iv (u : List (Nat × Value)) (k : Nat) : Int32 := match sc_at u k with
  | some (.int v) => v
  | _ => 0
def sc_rv (u : List (Nat × Value)) (k : Nat) : Option Nat := match sc_at u k with
  | some (.ref o) => some o
  | _ => none
def sc_cell (a : Nat → Nat) (cA : Nat → ClassId) (x : sc_C) : va_E := match x with
  | .inl q => .inr (q.1, q.2.map (sw_cv a))
  | .inr q => .inl (cA q.1, q.2.1, if q.1 = 3 then .inr (.inl fun _ => 0) else if q.1 = 4 then .inr (.inr (.inr (.inr fun k => (sc_rv q.2.2 k).map a))) else .inl (sc_iv q.2.2))
def sc_w (a : Nat → Nat) (cA : Nat → ClassId) (cs : List sc_C) : va_W := (List.range cs.length).map fun i => (a i, sc_cell a cA (cs.getD i (.inl (0, []))))
def sc_s1 (x : sc_C) : Nat := match x with
  | .inl q => q.2.length
  | .inr q => q.2.1
def sc_sz (cs : List sc_C) : Nat := (cs.map sc_s1).sum
def sc_okv (n : Nat) (v : Value) : Bool := match v with
  | .ref o => decide (o < n)
  | _ => true
def sc_ok (n : Nat) (x : sc_C) : Bool := match x with
  | .inl q => q.2.all (sc_okv n)
  | .inr q => q.2.2.all fun u => sc_okv n u.2
theorem sc_len (a : Nat → Nat) (cA : Nat → ClassId) (cs : List sc_C) : (sc_w a cA cs).length = cs.length := by simp [sc_w]
theorem sc_w_at {a : Nat → Nat} {cA : Nat → ClassId} {cs : List sc_C} {i : Nat} {x : sc_C} (h : cs[i]? = some x) : (sc_w a cA cs)[i]? = some (a i, sc_cell a cA x) := by
  have hi : i < cs.length := (List.getElem?_eq_some_iff.mp h).1
  have he : cs[i] = x := (List.getElem?_eq_some_iff.mp h).2
  simp [sc_w, hi, he]
theorem sc_w_set {a : Nat → Nat} {cA : Nat → ClassId} {cs : List sc_C} {i : Nat} {x : sc_C} : (sc_w a cA cs).set i (a i, sc_cell a cA x) = sc_w a cA (cs.set i x) := by
  apply List.ext_getElem?
  intro j
  by_cases hj : j < cs.length
  · by_cases hij : j = i
    · subst hij
      rw [List.getElem?_set_self (by rw [sc_len]; exact hj), sc_w_at (x := x) (by rw [List.getElem?_set_self hj])]
    · rw [List.getElem?_set_ne (Ne.symm hij)]
      obtain ⟨y, hy⟩ : ∃ y, cs[j]? = some y := ⟨_, List.getElem?_eq_getElem hj⟩
      rw [sc_w_at hy, sc_w_at (x := y) (by rw [List.getElem?_set_ne (Ne.symm hij)]; exact hy)]
  · rw [List.getElem?_eq_none (by simp [sc_w]; omega), List.getElem?_eq_none (by simp [sc_w]; omega)]
theorem sc_cv_eq {a b : Nat → Nat} {n : Nat} (h : ∀ i, i < n → b i = a i) {v : Value} (hv : sc_okv n v = true) : sw_cv b v = sw_cv a v := by
  cases v with
  | ref o => exact congrArg Value.ref (h o (of_decide_eq_true hv))
  | _ => rfl
theorem sc_at_in {u : List (Nat × Value)} {k : Nat} {v : Value} (h : sc_at u k = some v) : (k, v) ∈ u := by
  induction u with
  | nil => cases h
  | cons q r ih =>
    unfold sc_at at h
    split at h
    · next e => cases h; subst e; exact List.mem_cons_self
    · exact List.mem_cons_of_mem _ (ih h)
theorem sc_cell_eq {a b : Nat → Nat} {cA : Nat → ClassId} {n : Nat} (h : ∀ i, i < n → b i = a i) {x : sc_C} (hx : sc_ok n x = true) : sc_cell b cA x = sc_cell a cA x := by
  cases x with
  | inl q =>
    have : q.2.map (sw_cv b) = q.2.map (sw_cv a) := List.map_congr_left fun v hv => sc_cv_eq h (List.all_eq_true.mp hx v hv)
    unfold sc_cell
    simp only [this]
  | inr q =>
    have : (fun k => (sc_rv q.2.2 k).map b) = fun k => (sc_rv q.2.2 k).map a := by
      funext k
      unfold sc_rv
      split
      · next o ho =>
        have h1 := List.all_eq_true.mp hx _ (sc_at_in ho)
        exact congrArg some (h o (of_decide_eq_true h1))
      · rfl
    unfold sc_cell
    simp only [this]
theorem sc_w_eq {a b : Nat → Nat} {cA : Nat → ClassId} {cs : List sc_C} {n : Nat} (h : ∀ i, i < n → b i = a i) (hn : cs.length ≤ n) (hx : cs.all (sc_ok n) = true) : sc_w b cA cs = sc_w a cA cs := by
  apply List.ext_getElem?
  intro j
  by_cases hj : j < cs.length
  · obtain ⟨y, hy⟩ : ∃ y, cs[j]? = some y := ⟨_, List.getElem?_eq_getElem hj⟩
    rw [sc_w_at hy, sc_w_at hy, h j (by omega), sc_cell_eq h (List.all_eq_true.mp hx y (List.mem_of_getElem? hy))]
  · rw [List.getElem?_eq_none (by simp [sc_w]; omega), List.getElem?_eq_none (by simp [sc_w]; omega)]
theorem sc_w_push {a : Nat → Nat} {cA : Nat → ClassId} {cs : List sc_C} {q : Nat} {x : sc_C} (hx : cs.all (sc_ok cs.length) = true) : sc_w a cA cs ++ [(q, sc_cell (va_up a cs.length q) cA x)] = sc_w (va_up a cs.length q) cA (cs ++ [x]) := by
  have hag : ∀ i, i < cs.length → (va_up a cs.length q) i = a i := fun i hi => by simp [va_up]; omega
  apply List.ext_getElem?
  intro j
  by_cases hj : j < cs.length
  · obtain ⟨y, hy⟩ : ∃ y, cs[j]? = some y := ⟨_, List.getElem?_eq_getElem hj⟩
    rw [List.getElem?_append_left (by rw [sc_len]; exact hj), sc_w_at hy, sc_w_at (x := y) (by rw [List.getElem?_append_left hj]; exact hy), hag j hj, sc_cell_eq hag (List.all_eq_true.mp hx y (List.mem_of_getElem? hy))]
  · by_cases hjn : j = cs.length
    · subst hjn
      rw [List.getElem?_append_right (by rw [sc_len]; exact Nat.le_refl _), sc_len, Nat.sub_self, sc_w_at (x := x) (by rw [List.getElem?_append_right (Nat.le_refl _), Nat.sub_self]; rfl)]
      simp [va_up]
    · rw [List.getElem?_eq_none (by simp [sc_w]; omega), List.getElem?_eq_none (by simp [sc_w]; omega)]
/-- constructors that a nest mate calls: their links aren't among the words that stay good by themselves -/
def sc_nl : List (Nat × Nat × MethodName) := [(10, 15, yX6_init), (10, 22, yX0_init), (10, 45, yX2_init), (10, 52, yX8_init), (10, 78, yX5_init), (2, 20, yX7_init), (4, 17, yX8_init), (9, 38, yX0_init)]
def sc_N (U : State) : Prop := (∀ q ∈ sc_nl, va_Nw (.methodLinkNest (sw_nm q.1) q.2.1 q.2.2 "StrayWool") U) ∧ va_AO RX8 U
theorem sc_N.warm {s U : State} (h : sc_N s) (hW : s.WarmedH U.vm) : sc_N U := ⟨fun q hq => (h.1 q hq).warmM hW, h.2.moved hW.alike⟩
theorem sc_N.calling {U : State} (g : JFrame) (mk : MethodId) (a : Array Value) (h : sc_N U) : sc_N (U.calling g mk a) := ⟨fun q hq => va_Nw.same (u := U) rfl rfl (h.1 q hq), va_AO.moved (u := U) (U := U.calling g mk a) (Vm.Alike.refl U.vm) h.2⟩
def sc_rm (d mc ms : Nat) : Room := { frames := d, cells := mc, slots := ms, locals := 70 * d }
def sc_Q (E : sw_E) (A : Nat → Prop) (a0 : Nat → Nat) (n0 : Nat) (csF : List sc_C) : Array Value → State → Outcome → State → Prop := fun _ st oc t =>
  (oc = .returned none ∧ ∃ a : Nat → Nat, (∀ i, i < n0 → a i = a0 i) ∧ va_P E.2.1 vwCl (sc_w a E.2.2.2 csF) t.heap ∧ va_K E.2.1 vwCl (sw_tys E) t ∧ va_D A (sc_w a E.2.2.2 csF)) ∧ va_F A st t
def sc_W (E : sw_E) (M : sw_M) (d mcT msT n0 : Nat) (csF : List sc_C) (cells slots pc : Nat) (L : sw_L) (st : List Value) (cs : List sc_C) : Prop :=
  ∀ (p : Program) (e : Env) (s : State) (m : MethodId) (args : Array Value) (below : List Frame) (meth : Method) (c : Code), sw_C E M p s m args meth c → (meth.name = M.1.name ∧ sc_N s) →
    ∀ (a0 a : Nat → Nat) (A : Nat → Prop) (H : Heap) (locs : List Loc) (ls : Array Slot), (∀ i, i < n0 → a i = a0 i) → n0 ≤ cs.length → (∀ q, s.heap.size ≤ q → A q) → va_P E.2.1 vwCl (sc_w a E.2.2.2 cs) H → va_D A (sc_w a E.2.2.2 cs) → va_S A s.heap H locs → lv_has ls M.2.2.1 (L.map fun q => (q.1, sw_cv a q.2)) →
      W p E.1 e (sc_rm d mcT msT) s m args below meth c H locs cells slots (MQ below (sc_Q E A a0 n0 csF) args s mcT msT A) (F0 m pc ls (st.map (sw_cv a)))
def sc_K (E : sw_E) (M : sw_M) (d : Nat) (av : List Value) (cs csF : List sc_C) : Prop :=
  ∀ (a : Nat → Nat) (sz : Nat), Met E.1 M.1 (sw_ws M) (sc_rm d (csF.length - cs.length) (sc_sz csF - sc_sz cs)) (va_Pc (av.map (sw_cv a)) (fun U => U.heap.size = sz ∧ va_P E.2.1 vwCl (sc_w a E.2.2.2 cs) U.heap ∧ va_K E.2.1 vwCl (sw_tys E) U ∧ va_D (fun _ => True) (sc_w a E.2.2.2 cs) ∧ sc_N U)) (sc_Q E (va_A (sc_w a E.2.2.2 cs) sz) a cs.length csF) (csF.length - cs.length) (sc_sz csF - sc_sz cs) (va_A (sc_w a E.2.2.2 cs) sz)
section sc_rules
variable {E : sw_E} {M N : sw_M} {d mcT msT n0 cells slots pc : Nat} {csF cs : List sc_C} {L : sw_L} {st : List Value}
theorem sd_iconst {n : Int} (hd : decode M.2.1 pc = .ok (.iconst n, 1)) (k : sc_W E M d mcT msT n0 csF cells slots (pc + 1) L (.int (Int32.ofInt n) :: st) cs) : sc_W E M d mcT msT n0 csF cells slots pc L st cs :=
  fun p e s m args below meth c C hn a0 a A H locs ls h0 h1 hA hP hD hS hl => lv_iconst C.1 C.2.1 hd rfl (k p e s m args below meth c C hn a0 a A H locs ls h0 h1 hA hP hD hS hl)
theorem sd_bipush {n : Int} (hd : decode M.2.1 pc = .ok (.bipush n, 2)) (k : sc_W E M d mcT msT n0 csF cells slots (pc + 2) L (.int (Int8.ofInt n).toInt32 :: st) cs) : sc_W E M d mcT msT n0 csF cells slots pc L st cs :=
  fun p e s m args below meth c C hn a0 a A H locs ls h0 h1 hA hP hD hS hl => lv_bipush C.1 C.2.1 hd rfl (k p e s m args below meth c C hn a0 a A H locs ls h0 h1 hA hP hD hS hl)
theorem sd_sipush {n : Int} (hd : decode M.2.1 pc = .ok (.sipush n, 3)) (k : sc_W E M d mcT msT n0 csF cells slots (pc + 3) L (.int (Int16.ofInt n).toInt32 :: st) cs) : sc_W E M d mcT msT n0 csF cells slots pc L st cs :=
  fun p e s m args below meth c C hn a0 a A H locs ls h0 h1 hA hP hD hS hl => lv_sipush C.1 C.2.1 hd rfl (k p e s m args below meth c C hn a0 a A H locs ls h0 h1 hA hP hD hS hl)
theorem sd_lconst {n : Fin 2} (hd : decode M.2.1 pc = .ok (.lconst n, 1)) (k : sc_W E M d mcT msT n0 csF cells slots (pc + 1) L (.long (Int64.ofNat (n : Nat)) :: st) cs) : sc_W E M d mcT msT n0 csF cells slots pc L st cs :=
  fun p e s m args below meth c C hn a0 a A H locs ls h0 h1 hA hP hD hS hl => lv_lconst C.1 C.2.1 hd rfl (k p e s m args below meth c C hn a0 a A H locs ls h0 h1 hA hP hD hS hl)
theorem sd_aload {n : Fin 4} {o : Nat} (hd : decode M.2.1 pc = .ok (.aload_n n, 1)) (hv : sw_lk L n = some (.ref o)) (k : sc_W E M d mcT msT n0 csF cells slots (pc + 1) L (.ref o :: st) cs) : sc_W E M d mcT msT n0 csF cells slots pc L st cs :=
  fun p e s m args below meth c C hn a0 a A H locs ls h0 h1 hA hP hD hS hl => lv_aload_n C.1 C.2.1 hd rfl (sw_lk_has hv hl) (k p e s m args below meth c C hn a0 a A H locs ls h0 h1 hA hP hD hS hl)
theorem sd_iload {n : Fin 4} {v : Int32} (hd : decode M.2.1 pc = .ok (.iload_n n, 1)) (hv : sw_lk L n = some (.int v)) (k : sc_W E M d mcT msT n0 csF cells slots (pc + 1) L (.int v :: st) cs) : sc_W E M d mcT msT n0 csF cells slots pc L st cs :=
  fun p e s m args below meth c C hn a0 a A H locs ls h0 h1 hA hP hD hS hl => lv_iload_n C.1 C.2.1 hd rfl (sw_lk_has hv hl) (k p e s m args below meth c C hn a0 a A H locs ls h0 h1 hA hP hD hS hl)
theorem sd_istore {n : Fin 4} {v : Int32} (hd : decode M.2.1 pc = .ok (.istore_n n, 1)) (hx : (n : Nat) < M.2.2.1) (k : sc_W E M d mcT msT n0 csF cells slots (pc + 1) (sw_s1 L n (.int v)) st cs) : sc_W E M d mcT msT n0 csF cells slots pc L (.int v :: st) cs :=
  fun p e s m args below meth c C hn a0 a A H locs ls h0 h1 hA hP hD hS hl => lv_istore_n C.1 C.2.1 hd rfl hl hx (sw_s1_map a L n (.int v)) (fun ls hl => k p e s m args below meth c C hn a0 a A H locs ls h0 h1 hA hP hD hS hl)
theorem sd_iinc {x : Nat} {n : Int} {v : Int32} (hd : decode M.2.1 pc = .ok (.iinc x n, 3)) (hv : sw_lk L x = some (.int v)) (hx : x < M.2.2.1) (k : sc_W E M d mcT msT n0 csF cells slots (pc + 3) (sw_s1 L x (.int (v + Int32.ofInt n))) st cs) : sc_W E M d mcT msT n0 csF cells slots pc L st cs := by
  intro p e s m args below meth c C hn a0 a A H locs ls h0 h1 hA hP hD hS hl
  obtain ⟨j, hj⟩ := sw_has_add hv hl
  exact lv_iinc C.1 C.2.1 hd hl hj rfl hx (sw_s1_map a L x (.int (v + Int32.ofInt n))) (fun ls hl => k p e s m args below meth c C hn a0 a A H locs ls h0 h1 hA hP hD hS hl)
theorem sd_dup {v : Value} (hd : decode M.2.1 pc = .ok (.dup, 1)) (hv : v.category = 1) (k : sc_W E M d mcT msT n0 csF cells slots (pc + 1) L (v :: v :: st) cs) : sc_W E M d mcT msT n0 csF cells slots pc L (v :: st) cs :=
  fun p e s m args below meth c C hn a0 a A H locs ls h0 h1 hA hP hD hS hl => lv_dup C.1 C.2.1 hd ((sw_cv_cat _ _).trans hv) (k p e s m args below meth c C hn a0 a A H locs ls h0 h1 hA hP hD hS hl)
theorem sd_iadd {x y : Int32} (hd : decode M.2.1 pc = .ok (.iadd, 1)) (k : sc_W E M d mcT msT n0 csF cells slots (pc + 1) L (.int (x + y) :: st) cs) : sc_W E M d mcT msT n0 csF cells slots pc L (.int y :: .int x :: st) cs :=
  fun p e s m args below meth c C hn a0 a A H locs ls h0 h1 hA hP hD hS hl => lv_iadd C.1 C.2.1 hd (k p e s m args below meth c C hn a0 a A H locs ls h0 h1 hA hP hD hS hl)
theorem sd_goto {off : Int} {tgt : Nat} (hd : decode M.2.1 pc = .ok (.goto off, 3)) (ht : (pc : Int) + off = (tgt : Int)) (k : sc_W E M d mcT msT n0 csF cells slots tgt L st cs) : sc_W E M d mcT msT n0 csF cells slots pc L st cs :=
  fun p e s m args below meth c C hn a0 a A H locs ls h0 h1 hA hP hD hS hl => lv_goto C.1 C.2.1 hd ht (k p e s m args below meth c C hn a0 a A H locs ls h0 h1 hA hP hD hS hl)
theorem sd_icmp_ge {x y : Int32} {off : Int} {tgt : Nat} (hd : decode M.2.1 pc = .ok (.if_icmp .ge off, 3)) (ht : (pc : Int) + off = (tgt : Int)) (k : sc_W E M d mcT msT n0 csF cells slots (if y ≤ x then tgt else pc + 3) L st cs) : sc_W E M d mcT msT n0 csF cells slots pc L (.int y :: .int x :: st) cs :=
  fun p e s m args below meth c C hn a0 a A H locs ls h0 h1 hA hP hD hS hl => lv_icmp_ge C.1 C.2.1 hd ht (fun h => by
    have := k p e s m args below meth c C hn a0 a A H locs ls h0 h1 hA hP hD hS hl
    rw [if_pos h] at this
    exact this) (fun h => by
    have := k p e s m args below meth c C hn a0 a A H locs ls h0 h1 hA hP hD hS hl
    rw [if_neg h] at this
    exact this)
theorem sc_at_o {a : Nat → Nat} {cA : Nat → ClassId} {o c : Nat} {fs : List Value} (h : cs[o]? = some (.inl (c, fs))) : (sc_w a cA cs)[o]? = some (a o, .inr (c, fs.map (sw_cv a))) := sc_w_at h
theorem sc_at_a {a : Nat → Nat} {cA : Nat → ClassId} {o t n : Nat} {u : List (Nat × Value)} (h : cs[o]? = some (.inr (t, n, u))) : (sc_w a cA cs)[o]? = some (a o, .inl (cA t, n, if t = 3 then .inr (.inl fun _ => 0) else if t = 4 then .inr (.inr (.inr (.inr fun k => (sc_rv u k).map a))) else .inl (sc_iv u))) := sc_w_at h
theorem sd_alen {o t n : Nat} {u : List (Nat × Value)} (hd : decode M.2.1 pc = .ok (.arraylength, 1)) (ho : cs[o]? = some (.inr (t, n, u))) (ht : t < 4) (k : sc_W E M d mcT msT n0 csF cells slots (pc + 1) L (.int (nI n) :: st) cs) : sc_W E M d mcT msT n0 csF cells slots pc L (.ref o :: st) cs :=
  fun p e s m args below meth c C hn a0 a A H locs ls h0 h1 hA hP hD hS hl => va_alen C.1 C.2.1 C.2.2.2.2.2.2.2 hP o t (sc_at_a ho) (ty := if t = 0 then .int else if t = 1 then .byte else if t = 2 then .char else .long) (by
    rcases (show t = 0 ∨ t = 1 ∨ t = 2 ∨ t = 3 by omega) with rfl | rfl | rfl | rfl <;> rfl) rfl hd (k p e s m args below meth c C hn a0 a A H locs ls h0 h1 hA hP hD hS hl)
theorem sd_get {idx c k o : Nat} {fs : List Value} {v : Value} (hd : decode M.2.1 pc = .ok (.getfield idx, 3)) (hf : sw_fl M.2.2.2.2 idx = some (c, k)) (ho : cs[o]? = some (.inl (c, fs))) (hv : fs[k]? = some v) (kk : sc_W E M d mcT msT n0 csF cells slots (pc + 3) L (v :: st) cs) : sc_W E M d mcT msT n0 csF cells slots pc L (.ref o :: st) cs := by
  intro p e s m args below meth cd C hn a0 a A H locs ls h0 h1 hA hP hD hS hl
  obtain ⟨V, hV, hk, hw⟩ := sw_fl_in hf
  obtain ⟨g1, g2, g3, -, -⟩ := sw_vw hV
  exact va_get C.1 C.2.1 C.2.2.2.2.2.1 g3 C.2.2.2.2.1 C.2.2.2.2.2.2.2 hP o (sc_at_o ho) hV k hk (C.2.2.2.2.2.1 _ hw) (fun _ h => h) (v := sw_cv a v) (by rw [List.getElem?_map, hv]; rfl) hd (kk p e s m args below meth cd C hn a0 a A H locs ls h0 h1 hA hP hD hS hl)
/-- may this value go into this field by a constructor or a method -/
def sc_fits (c k : Nat) (v : Value) : Bool := match vwCl[c]? with
  | none => false
  | some V => match parseFieldDescriptor (V.2.1 k).2.2.1, v with
    | some .int, .int _ => true
    | some .long, .long _ => true
    | some (.object _), .ref _ => true
    | some (.array _), .ref _ => true
    | _, _ => false
def sc_fin (c k : Nat) : Bool := match vwCl[c]? with
  | none => true
  | some V => (V.2.1 k).2.2.2
theorem sd_put {idx c k o : Nat} {fs : List Value} {v : Value} (hd : decode M.2.1 pc = .ok (.putfield idx, 3)) (hf : sw_fl M.2.2.2.2 idx = some (c, k)) (ho : cs[o]? = some (.inl (c, fs))) (hl0 : k < fs.length) (hfit : sc_fits c k v = true) (hfin : sc_fin c k = false ∨ (M.1.name = "<init>" ∧ M.2.2.2.2 = c ∧ sw_nm c = (match vwCl[c]? with | some V => (V.2.1 k).1 | none => ""))) (kk : sc_W E M d mcT msT n0 csF cells slots (pc + 3) L st (cs.set o (.inl (c, fs.set k v)))) : sc_W E M d mcT msT n0 csF cells slots pc L (v :: .ref o :: st) cs := by
  intro p e s m args below meth cd C hn a0 a A H locs ls h0 h1 hA hP hD hS hl
  obtain ⟨V, hV, hk, hw⟩ := sw_fl_in hf
  obtain ⟨g1, g2, g3, ⟨ty0, g4⟩, g5⟩ := sw_vw hV
  have hww : (sc_w a E.2.2.2 cs).set o (a o, .inr (c, (fs.map (sw_cv a)).set k (sw_cv a v))) = sc_w a E.2.2.2 (cs.set o (.inl (c, fs.set k v))) := by
    rw [← sc_w_set]
    unfold sc_cell
    simp only [List.map_set]
  have hx : ∃ ty, parseFieldDescriptor (V.2.1 k).2.2.1 = some ty ∧ narrow ty (sw_cv a v) = sw_cv a v ∧ fits ty (sw_cv a v) = true := by
    unfold sc_fits at hfit
    rw [hV] at hfit
    simp only at hfit
    split at hfit
    · next h1 => exact ⟨_, h1, rfl, rfl⟩
    · next h1 => exact ⟨_, h1, rfl, rfl⟩
    · next h1 => exact ⟨_, h1, rfl, rfl⟩
    · next h1 => exact ⟨_, h1, rfl, rfl⟩
    · cases hfit
  obtain ⟨ty, x1, x2, x3⟩ := hx
  have hlen : n0 ≤ (cs.set o (.inl (c, fs.set k v))).length := by rw [List.length_set]; exact h1
  have hF : (V.2.1 k).2.2.2 = sc_fin c k := by unfold sc_fin; rw [hV]
  by_cases hff : sc_fin c k = false
  · refine va_put C.1 C.2.1 C.2.2.2.2.2.1 g3 ty0 g4 g5 C.2.2.2.2.1 C.2.2.2.2.2.2.2 hP hD hS o (sc_at_o ho) hV k hk (C.2.2.2.2.2.1 _ hw) (fun _ h => h) (hF.trans hff) x1 x2 x3 (by rw [List.length_map]; exact hl0) hd (fun H1 locs1 hP1 hD1 hS1 => ?_)
    exact kk p e s m args below meth cd C hn a0 a A H1 locs1 ls h0 hlen hA (by rw [← hww]; exact hP1) (by rw [← hww]; exact hD1) hS1 hl
  · rcases hfin with h | ⟨f1, f2, f3⟩
    · exact absurd h hff
    · have hft : (V.2.1 k).2.2.2 = true := by rw [hF]; cases hq : sc_fin c k with
        | false => exact absurd hq hff
        | true => rfl
      rw [hV] at f3
      refine va_putF C.1 C.2.1 C.2.2.2.2.2.1 g3 ty0 g4 g5 C.2.2.2.2.1 C.2.2.2.2.2.2.2 hP hD hS o (sc_at_o ho) hV k hk (C.2.2.2.2.2.1 _ hw) (fun _ h => h) hft (hn.1.trans f1) (by rw [f2]; exact f3.symm) x1 x2 x3 (by rw [List.length_map]; exact hl0) hd (fun H1 locs1 hP1 hD1 hS1 => ?_)
      exact kk p e s m args below meth cd C hn a0 a A H1 locs1 ls h0 hlen hA (by rw [← hww]; exact hP1) (by rw [← hww]; exact hD1) hS1 hl
theorem sc_iv_cons (u : List (Nat × Value)) (k : Nat) (x : Int32) : sc_iv ((k, .int x) :: u) = upd (sc_iv u) k x := by
  funext j
  unfold sc_iv upd
  by_cases h : j = k
  · subst h; simp [sc_at]
  · have : ¬ k = j := fun z => h z.symm
    simp [sc_at, this, h]
theorem sc_rv_cons (a : Nat → Nat) (u : List (Nat × Value)) (k x : Nat) : (fun j => (sc_rv ((k, .ref x) :: u) j).map a) = va_up (fun j => (sc_rv u j).map a) k (some (a x)) := by
  funext j
  unfold sc_rv va_up
  by_cases h : j = k
  · subst h; simp [sc_at]
  · have : ¬ k = j := fun z => h z.symm
    simp [sc_at, this, h]
theorem sd_iastore {o n : Nat} {u : List (Nat × Value)} {i x : Int32} (hd : decode M.2.1 pc = .ok (.iastore, 1)) (ho : cs[o]? = some (.inr (0, n, u))) (hi : vp_in i n) (k : sc_W E M d mcT msT n0 csF cells slots (pc + 1) L st (cs.set o (.inr (0, n, (i.toNatClampNeg, .int x) :: u)))) : sc_W E M d mcT msT n0 csF cells slots pc L (.int x :: .int i :: .ref o :: st) cs := by
  intro p e s m args below meth c C hn a0 a A H locs ls h0 h1 hA hP hD hS hl
  have hww : (sc_w a E.2.2.2 cs).set o (a o, .inl (E.2.2.2 0, n, .inl (upd (sc_iv u) i.toNatClampNeg x))) = sc_w a E.2.2.2 (cs.set o (.inr (0, n, (i.toNatClampNeg, .int x) :: u))) := by
    rw [← sc_w_set, ← sc_iv_cons]; rfl
  refine va_iast C.1 C.2.1 C.2.2.2.2.2.2.2 hP hD hS o 0 (sc_at_a ho) rfl hi hd (fun H1 locs1 hP1 hD1 hS1 => ?_)
  exact k p e s m args below meth c C hn a0 a A H1 locs1 ls h0 (by rw [List.length_set]; exact h1) hA (by rw [← hww]; exact hP1) (by rw [← hww]; exact hD1) hS1 hl
theorem sd_castore {o n : Nat} {u : List (Nat × Value)} {i x : Int32} (hd : decode M.2.1 pc = .ok (.castore, 1)) (ho : cs[o]? = some (.inr (2, n, u))) (hi : vp_in i n) (k : sc_W E M d mcT msT n0 csF cells slots (pc + 1) L st (cs.set o (.inr (2, n, (i.toNatClampNeg, .int (vp_nar .char x)) :: u)))) : sc_W E M d mcT msT n0 csF cells slots pc L (.int x :: .int i :: .ref o :: st) cs := by
  intro p e s m args below meth c C hn a0 a A H locs ls h0 h1 hA hP hD hS hl
  have hww : (sc_w a E.2.2.2 cs).set o (a o, .inl (E.2.2.2 2, n, .inl (upd (sc_iv u) i.toNatClampNeg (vp_nar .char x)))) = sc_w a E.2.2.2 (cs.set o (.inr (2, n, (i.toNatClampNeg, .int (vp_nar .char x)) :: u))) := by
    rw [← sc_w_set, ← sc_iv_cons]; rfl
  refine va_cast C.1 C.2.1 C.2.2.2.2.2.2.2 hP hD hS o 2 (sc_at_a ho) rfl hi hd (fun H1 locs1 hP1 hD1 hS1 => ?_)
  exact k p e s m args below meth c C hn a0 a A H1 locs1 ls h0 (by rw [List.length_set]; exact h1) hA (by rw [← hww]; exact hP1) (by rw [← hww]; exact hD1) hS1 hl
theorem sd_aastore {o n v : Nat} {u : List (Nat × Value)} {i : Int32} {fs : List Value} (hd : decode M.2.1 pc = .ok (.aastore, 1)) (ho : cs[o]? = some (.inr (4, n, u))) (hv : cs[v]? = some (.inl (8, fs))) (hi : vp_in i n) (k : sc_W E M d mcT msT n0 csF cells slots (pc + 1) L st (cs.set o (.inr (4, n, (i.toNatClampNeg, .ref v) :: u)))) : sc_W E M d mcT msT n0 csF cells slots pc L (.ref v :: .int i :: .ref o :: st) cs := by
  intro p e s m args below meth c C hn a0 a A H locs ls h0 h1 hA hP hD hS hl
  have hww : (sc_w a E.2.2.2 cs).set o (a o, .inl (E.2.2.2 4, n, .inr (.inr (.inr (.inr (va_up (fun k => (sc_rv u k).map a) i.toNatClampNeg (some (a v)))))))) = sc_w a E.2.2.2 (cs.set o (.inr (4, n, (i.toNatClampNeg, .ref v) :: u))) := by
    rw [← sc_w_set, ← sc_rv_cons]; rfl
  refine va_astq C.1 C.2.1 C.2.2.2.2.2.2.2 hP hD hS o 4 v 8 (sc_at_a ho) (r := (RX8, TX8, 12)) rfl (sc_at_o hv) rfl hi hd (fun H1 locs1 hP1 hD1 hS1 => ?_)
  exact k p e s m args below meth c C hn a0 a A H1 locs1 ls h0 (by rw [List.length_set]; exact h1) hA (by rw [← hww]; exact hP1) (by rw [← hww]; exact hD1) hS1 hl
theorem sd_return (hd : decode M.2.1 pc = .ok (.return_, 1)) (hr : M.2.2.2.1 = none) (h1 : cells = mcT) (h2 : slots = msT) : sc_W E M d mcT msT n0 cs cells slots pc L [] cs := by
  subst h1; subst h2
  exact fun p e s m args below meth c C hn a0 a A H locs ls h0 h1 hA hP hD hS hl => W.vret C.1 C.2.1 (C.2.2.2.1.trans hr) (fun t ht hW => ⟨⟨rfl, a, h0, by rw [ht]; exact hP, va_K.moved hW.alike C.2.2.2.2.2.2.2, hD⟩, hS.F ht⟩) hS.2.2 hd C.2.2.2.2.2.2.1
end sc_rules
section sc_alloc
variable {E : sw_E} {M N : sw_M} {d mcT msT n0 cells slots pc : Nat} {csF cs : List sc_C} {L : sw_L} {st : List Value}
def sc_okL (n : Nat) (L : sw_L) : Bool := L.all fun q => sc_okv n q.2
theorem sc_L_eq {a b : Nat → Nat} {n : Nat} (h : ∀ i, i < n → b i = a i) (hL : sc_okL n L = true) : (L.map fun q => (q.1, sw_cv b q.2)) = L.map fun q => (q.1, sw_cv a q.2) :=
  List.map_congr_left fun q hq => by rw [sc_cv_eq h (List.all_eq_true.mp hL q hq)]
theorem sc_st_eq {a b : Nat → Nat} {n : Nat} (h : ∀ i, i < n → b i = a i) (hs : st.all (sc_okv n) = true) : st.map (sw_cv b) = st.map (sw_cv a) :=
  List.map_congr_left fun v hv => sc_cv_eq h (List.all_eq_true.mp hs v hv)
/-- a new cell: the walk goes on with it -/
theorem sc_push {x : sc_C} {e0 : va_E} {pc' : Nat} (hx : cs.all (sc_ok cs.length) = true) (hL : sc_okL cs.length L = true) (hst : st.all (sc_okv cs.length) = true) (k : sc_W E M d mcT msT n0 csF cells slots pc' L (.ref cs.length :: st) (cs ++ [x]))
    {p : Program} {e : Env} {s : State} {m : MethodId} {args : Array Value} {below : List Frame} {meth : Method} {c : Code} (C : sw_C E M p s m args meth c) (hn : meth.name = M.1.name ∧ sc_N s) {a0 a : Nat → Nat} {A : Nat → Prop} {locs : List Loc} {ls : Array Slot} (h0 : ∀ i, i < n0 → a i = a0 i) (h1 : n0 ≤ cs.length) (hA : ∀ q, s.heap.size ≤ q → A q) (hl : lv_has ls M.2.2.1 (L.map fun q => (q.1, sw_cv a q.2)))
    {q : Nat} {H1 : Heap} (he : e0 = sc_cell (va_up a cs.length q) E.2.2.2 x) (hP : va_P E.2.1 vwCl (sc_w a E.2.2.2 cs ++ [(q, e0)]) H1) (hD : va_D A (sc_w a E.2.2.2 cs ++ [(q, e0)])) (hS : va_S A s.heap H1 locs) :
    W p E.1 e (sc_rm d mcT msT) s m args below meth c H1 locs cells slots (MQ below (sc_Q E A a0 n0 csF) args s mcT msT A) (F0 m pc' ls (.ref q :: st.map (sw_cv a))) := by
  have hag : ∀ i, i < cs.length → (va_up a cs.length q) i = a i := fun i hi => by simp [va_up]; omega
  rw [he, sc_w_push hx] at hP hD
  have hr := k p e s m args below meth c C hn a0 (va_up a cs.length q) A H1 locs ls (fun i hi => (hag i (Nat.lt_of_lt_of_le hi h1)).trans (h0 i hi)) (by rw [List.length_append]; omega) hA hP hD hS (by rw [sc_L_eq hag hL]; exact hl)
  have e2 : (Value.ref cs.length :: st).map (sw_cv (va_up a cs.length q)) = .ref q :: st.map (sw_cv a) := by
    rw [List.map_cons, sc_st_eq hag hst]
    simp [sw_cv, va_up]
  rw [e2] at hr
  exact hr
theorem sd_newarray {atype : ArrayType} {n : Int32} (t : Nat) (ty : FieldType) (hd : decode M.2.1 pc = .ok (.newarray atype, 2)) (htt : newarray.typeOf atype = ty) (hw : Cond.arrayClass ty ∈ sw_T) (ht : (sw_tys E)[t]? = some (E.2.2.2 t, ty)) (hra : ∀ (U : State) (cA : ClassId), va_RA U cA ty → U.vm.findClass ("[" ++ ty.toString) = some cA) (a0 : vp_A)
    (hc1 : ∀ a : Nat → Nat, sc_cell a E.2.2.2 (.inr (t, n.toNatClampNeg, [])) = .inl (E.2.2.2 t, a0)) (hc2 : ∀ cA : ClassId, vp_cell cA a0 = arrV cA n.toNatClampNeg (fun _ => defaultValue ty)) (hn0 : ¬ n < 0) (hby : n.toNatClampNeg * componentBytes ty ≤ 536870912)
    (hc : cells + 1 ≤ mcT) (hs : slots + n.toNatClampNeg ≤ msT) (hx : cs.all (sc_ok cs.length) = true) (hL : sc_okL cs.length L = true) (hst : st.all (sc_okv cs.length) = true)
    (k : sc_W E M d mcT msT n0 csF (cells + 1) (slots + n.toNatClampNeg) (pc + 2) L (.ref cs.length :: st) (cs ++ [.inr (t, n.toNatClampNeg, [])])) : sc_W E M d mcT msT n0 csF cells slots pc L (.int n :: st) cs := by
  intro p e s m args below meth c C hn a0' a A H locs ls h0 h1 hA hP hD hS hl
  refine va_newa C.1 C.2.1 (by rw [htt]; exact C.2.2.2.2.2.1 _ hw) htt C.2.2.2.2.2.2.2 hP hD hS hA hc2 hn0 rfl hby hc hs hd (fun q cA H1 hK1 hP1 hD1 hS1 => ?_)
  have hcA : cA = E.2.2.2 t := by
    have r1 := hra s cA (hK1.2 5 (cA, ty) rfl).2
    have r2 := hra s (E.2.2.2 t) (C.2.2.2.2.2.2.2.2 t _ ht).2
    exact Option.some.inj (r1.symm.trans r2)
  subst hcA
  exact sc_push hx hL hst k C hn h0 h1 hA hl (hc1 _).symm hP1 hD1 hS1
theorem sd_anewarray {idx : Nat} {n : Int32} (hd : decode M.2.1 pc = .ok (.anewarray idx, 3)) (hcl : Cond.classLink (sw_nm M.2.2.2.2) idx RX8 ∈ sw_T) (hn0 : ¬ n < 0) (hby : n.toNatClampNeg * 4 ≤ 536870912)
    (hc : cells + 1 ≤ mcT) (hs : slots + n.toNatClampNeg ≤ msT) (hx : cs.all (sc_ok cs.length) = true) (hL : sc_okL cs.length L = true) (hst : st.all (sc_okv cs.length) = true)
    (k : sc_W E M d mcT msT n0 csF (cells + 1) (slots + n.toNatClampNeg) (pc + 3) L (.ref cs.length :: st) (cs ++ [.inr (4, n.toNatClampNeg, [])])) : sc_W E M d mcT msT n0 csF cells slots pc L (.int n :: st) cs := by
  intro p e s m args below meth c C hn a0' a A H locs ls h0 h1 hA hP hD hS hl
  refine va_newq C.1 C.2.1 C.2.2.2.2.1 (C.2.2.2.2.2.1 _ hcl) hn.2.2 C.2.2.2.2.2.2.2 hP hD hS hA hn0 rfl hby hc hs hd (fun q cA H1 hK1 hP1 hD1 hS1 => ?_)
  have hcA : cA = E.2.2.2 4 := by
    obtain ⟨-, -, -, -, -, r1⟩ := (hK1.2 5 (cA, .object RX8) rfl).2
    obtain ⟨-, -, -, -, -, r2⟩ := (C.2.2.2.2.2.2.2.2 4 (E.2.2.2 4, .object RX8) rfl).2
    exact Option.some.inj (r1.symm.trans r2)
  subst hcA
  exact sc_push hx hL hst k C hn h0 h1 hA hl rfl hP1 hD1 hS1
/-- the fields of a new object -/
def sc_df (c : Nat) : List Value := (sw_kds.getD c []).map fun k => if k < 2 then .int 0 else if k = 2 then .long 0 else .null
theorem sc_df_ok : ∀ c, c < 12 → ∀ k, k < sw_nf c → (match vwCl[c]? with | some V => (parseFieldDescriptor (V.2.1 k).2.2.1).map defaultValue | none => none) = some (vp_V (sc_df c) k) := by decide +kernel
theorem sc_df_cv (a : Nat → Nat) : ∀ c, (sc_df c).map (sw_cv a) = sc_df c := by
  intro c
  unfold sc_df
  rw [List.map_map]
  apply List.map_congr_left
  intro k _
  show sw_cv a (if k < 2 then .int 0 else if k = 2 then .long 0 else .null) = _
  split
  · rfl
  · split <;> rfl
theorem sc_nm_vw {c : Nat} {V : vw_C} (h : vwCl[c]? = some V) : V.1 = sw_nm c := by
  match c, h with
  | 0, h | 1, h | 2, h | 3, h | 4, h | 5, h | 6, h | 7, h | 8, h | 9, h | 10, h | 11, h => cases h; rfl
  | n + 12, h => simp [vwCl] at h
theorem sd_new {idx cc : Nat} (hd : decode M.2.1 pc = .ok (.new idx, 3)) (h12 : cc < 12) (hcl : Cond.classLink (sw_nm M.2.2.2.2) idx (sw_nm cc) ∈ sw_T) (hin : Cond.instantiable (sw_nm cc) (sw_nf cc) ∈ sw_T) (hini : Cond.initialized (sw_nm cc) ∈ sw_T)
    (hc : cells + 1 ≤ mcT) (hs : slots + sw_nf cc ≤ msT) (hx : cs.all (sc_ok cs.length) = true) (hL : sc_okL cs.length L = true) (hst : st.all (sc_okv cs.length) = true)
    (k : sc_W E M d mcT msT n0 csF (cells + 1) (slots + sw_nf cc) (pc + 3) L (.ref cs.length :: st) (cs ++ [.inl (cc, sc_df cc)])) : sc_W E M d mcT msT n0 csF cells slots pc L st cs := by
  intro p e s m args below meth c C hn a0' a A H locs ls h0 h1 hA hP hD hS hl
  obtain ⟨V, hV⟩ : ∃ V, vwCl[cc]? = some V := ⟨_, List.getElem?_eq_getElem (show cc < vwCl.length from h12)⟩
  obtain ⟨g1, g2, g3, ⟨ty0, g4⟩, g5⟩ := sw_vw hV
  have hVn := sc_nm_vw hV
  have hV2 : vwCl[cc]? = some (sw_nm cc, V.2.1, sw_nf cc) := by rw [hV, ← hVn, ← g2]
  refine va_new (fs := sc_df cc) (T := V.2.1) (N := sw_nf cc) C.1 C.2.1 C.2.2.2.2.2.1 (by rw [← hVn, ← g2]; exact g3) ty0 (by rw [← g2]; exact g4) C.2.2.2.2.1 (C.2.2.2.2.2.1 _ hcl) (C.2.2.2.2.2.1 _ hin) (C.2.2.2.2.2.1 _ hini) C.2.2.2.2.2.2.2 hP hD hS hA hV2 (fun j hj => ?_) hc hs hd (fun q H1 hP1 hD1 hS1 => ?_)
  · have h9 := sc_df_ok cc h12 j hj
    rw [hV] at h9
    simp only at h9
    rw [g4 j (by rw [g2]; exact hj)] at h9
    exact Option.some.inj h9
  · refine sc_push hx hL hst k C hn h0 h1 hA hl ?_ hP1 hD1 hS1
    unfold sc_cell
    simp only [sc_df_cv]
theorem sd_objInit {idx o : Nat} (hd : decode M.2.1 pc = .ok (.invokespecial idx, 3)) (hlk : Cond.methodLink (sw_nm M.2.2.2.2) idx objectInit ∈ sw_T) (hI : Cond.instanceMethod objectInit ∈ sw_T) (hC : Cond.code objectInit ⟨#[0xb1]⟩ 1 none ∈ sw_T) (hd1 : 1 ≤ d) (hst : (st.map fun v => v.category).sum ≤ 8) (k : sc_W E M d mcT msT n0 csF cells slots (pc + 3) L st cs) : sc_W E M d mcT msT n0 csF cells slots pc L (.ref o :: st) cs := by
  intro p e s m args below meth c C hn a0' a A H locs ls h0 h1 hA hP hD hS hl
  refine W.objInit C.1 C.2.1 C.2.2.2.2.1 (C.2.2.2.2.2.1 _ hlk) (C.2.2.2.2.2.1 _ hI) (C.2.2.2.2.2.1 _ hC) rfl (hl.1.trans C.2.2.1.symm) rfl hd hd1 ?_ (k p e s m args below meth c C hn a0' a A H locs ls h0 h1 hA hP hD hS hl)
  have h2 := sw_cats a st
  have h3 := lv_room (m := m) (pc := pc) (ls := ls) (rest := (Value.ref o :: st).map (sw_cv a)) (st := st.map (sw_cv a)) (by rw [h2]; exact hst)
  show _ + 12 ≤ 70 * d
  omega
end sc_alloc

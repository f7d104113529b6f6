/-! A small machine over a store of fixed cells: worlds, walks, one rule an instruction. -/
abbrev sw_St : Type := (Nat → Nat → Int32) × (Nat → Nat → Int64) × (Nat → Nat → Option Nat)
abbrev sw_L : Type := List (Nat × Value)
abbrev sw_I : Type := Instr × Nat × Int32 × Int64
/-- how many cells; a cell is an object of a class or an array (type, length) -/
abbrev sw_G : Type := Nat × List (Nat ⊕ (Nat × Nat))
abbrev sw_E : Type := Launch × va_G × (Nat → Nat) × (Nat → ClassId)
/-- a method: its name, bytes, locals, return type, number of its class -/
abbrev sw_M : Type := MethodName × ByteArray × Nat × Option FieldType × Nat
def sw_uI (σ : sw_St) (o k : Nat) (v : Int32) : sw_St := (fun o' => if o' = o then upd (σ.1 o) k v else σ.1 o', σ.2)
def sw_uL (σ : sw_St) (o k : Nat) (v : Int64) : sw_St := (σ.1, fun o' => if o' = o then vp_updL (σ.2.1 o) k v else σ.2.1 o', σ.2.2)
def sw_uR (σ : sw_St) (o k : Nat) (v : Option Nat) : sw_St := (σ.1, σ.2.1, fun o' => if o' = o then vf_upd (σ.2.2 o) k v else σ.2.2 o')
def sw_gX : sw_G := (227, sw_shX)
def sw_gM : sw_G := (75, sw_shM)
def sw_sh (G : sw_G) (o : Nat) : Nat ⊕ (Nat × Nat) := G.2.getD o (.inr (9, 0))
def sw_isO (G : sw_G) (o c : Nat) : Bool := decide (o < G.1) && (match sw_sh G o with | .inl c' => c' == c | .inr _ => false)
def sw_isA (G : sw_G) (o t : Nat) : Bool := decide (o < G.1) && (match sw_sh G o with | .inl _ => false | .inr q => q.1 == t)
def sw_ln (G : sw_G) (o : Nat) : Nat := match sw_sh G o with | .inl _ => 0 | .inr q => q.2
/-- a cell's number stands for its address -/
def sw_cv (a : Nat → Nat) : Value → Value
  | .ref o => .ref (a o)
  | v => v
def sw_fv (σ : sw_St) (c o k : Nat) : Value := match sw_kd c k with
  | 0 => .int (σ.1 o k)
  | 1 => .int (σ.1 o k)
  | 2 => .long (σ.2.1 o k)
  | 3 => va_rf (σ.2.2 o k)
  | n + 4 => .ref (if n < 996 then o + n else n - 996)
def sw_cell (E : sw_E) (G : sw_G) (σ : sw_St) (o : Nat) : va_E := match sw_sh G o with
  | .inl c => .inr (c, (List.range (sw_nf c)).map fun k => sw_cv E.2.2.1 (sw_fv σ c o k))
  | .inr q => .inl (E.2.2.2 q.1, q.2, if q.1 = 3 then .inr (.inl (σ.2.1 o)) else if q.1 = 4 then .inr (.inr (.inr (.inr fun k => (σ.2.2 o k).map E.2.2.1))) else .inl (σ.1 o))
def sw_w (E : sw_E) (G : sw_G) (σ : sw_St) : va_W := (List.range G.1).map fun o => (E.2.2.1 o, sw_cell E G σ o)
theorem sw_w_at {E : sw_E} {G : sw_G} {σ : sw_St} {o : Nat} (h : o < G.1) : (sw_w E G σ)[o]? = some (E.2.2.1 o, sw_cell E G σ o) := by
  simp [sw_w, h]
theorem sw_w_set {E : sw_E} {G : sw_G} {σ σ' : sw_St} {o : Nat} (h : ∀ i, i ≠ o → sw_cell E G σ' i = sw_cell E G σ i) : (sw_w E G σ).set o (E.2.2.1 o, sw_cell E G σ' o) = sw_w E G σ' := by
  apply List.ext_getElem?
  intro i
  by_cases hi : i = o
  · subst hi
    by_cases hl : i < G.1
    · rw [List.getElem?_set_self (by simp [sw_w, hl]), sw_w_at hl]
    · have h1 : (sw_w E G σ').length ≤ i := by simp [sw_w]; omega
      have h2 : ((sw_w E G σ).set i (E.2.2.1 i, sw_cell E G σ' i)).length ≤ i := by simp [sw_w]; omega
      rw [List.getElem?_eq_none h1, List.getElem?_eq_none h2]
  · rw [List.getElem?_set_ne (Ne.symm hi)]
    simp only [sw_w, List.getElem?_map]
    by_cases hl : i < G.1
    · simp [hl, h i hi]
    · have : (List.range G.1)[i]? = none := List.getElem?_eq_none (by simp; omega)
      rw [this]; rfl
def sw_tys (E : sw_E) : List (ClassId × FieldType) := [(E.2.2.2 0, .int), (E.2.2.2 1, .byte), (E.2.2.2 2, .char), (E.2.2.2 3, .long), (E.2.2.2 4, .object RX8)]
/-- a method's words -/
def sw_ws (M : sw_M) : List Cond := .code M.1 M.2.1 M.2.2.1 M.2.2.2.1 :: sw_T
def sw_rm (d : Nat) : Room := { frames := d, cells := 0, slots := 0, locals := 70 * d }
/-- the machine at a method of the system -/
def sw_C (E : sw_E) (M : sw_M) (p : Program) (s : State) (m : MethodId) (args : Array Value) (meth : Method) (c : Code) : Prop :=
  p.tables.exec = Jvm.exec ∧ c.code = M.2.1 ∧ c.maxLocals = M.2.2.1 ∧ meth.sig.returnType = M.2.2.2.1 ∧ s.vm.findClass (sw_nm M.2.2.2.2) = some m.cls ∧ (∀ w ∈ sw_T, w.before args s = true) ∧ meth.locks = false ∧ va_K E.2.1 vwCl (sw_tys E) s
/-- what lies outside the worlds and is read: the text WORDS, two statics of the JDK -/
def sw_wl : List Int32 := [102, 105, 101, 108, 100, 32, 108, 117, 114, 101, 32, 103, 97, 112, 32, 116, 111, 32, 109, 105, 108, 101, 115, 32, 115, 104, 117, 116, 32, 115, 104, 101, 101, 112, 32, 97, 116, 32, 99, 117, 114, 105, 111, 117, 115, 32, 108, 117, 114, 101, 115, 32, 115, 116, 97, 121, 115, 32, 119, 111, 114, 116, 104, 32, 115, 116, 111, 114, 109, 32, 119, 111, 111, 108, 32, 100, 97, 121, 32, 115, 101, 101, 110, 32, 99, 114, 105, 109, 112, 32, 108, 101, 100, 32, 110, 117, 109, 98, 101, 114, 32, 111, 114, 32, 97, 110, 100, 32, 110, 111, 116, 32, 97, 108, 108, 32, 109, 105, 110, 32, 109, 97, 120, 32, 102, 105, 114, 115, 116, 32, 108, 97, 115, 116, 32, 111, 102, 116, 101, 110, 32, 116, 111, 116, 97, 108, 32, 109, 111, 115, 116, 32, 108, 101, 97, 115, 116, 32]
def sw_Z (s : State) (A : Nat → Prop) : Prop := ∃ adK adV : Nat → Nat, vk_R "StrayWool$Reader" 54 "field lure gap to miles shut sheep at curious lures stays worth storm wool day seen crimp led number or and not all min max first last often total most least " (adK 0) s ∧ vk_S 1 [158] [sw_wl] adK adV A s s.heap ∧ va_Z "java/lang/String" "COMPACT_STRINGS" "Z" (.int 1) A s s.heap ∧ va_Zq "jdk/internal/util/Preconditions" "SIOOBE_FORMATTER" "Ljava/util/function/BiFunction;" A s s.heap
theorem sw_Z.mv {s U : State} {A B : Nat → Prop} {H : Heap} {locs : List Loc} (h : sw_Z s A) (hW : s.WarmedH U.vm) (hU : U.heap = H) (hS : va_S A s.heap H locs) (hAB : ∀ q, B q → A q) : sw_Z U B := by
  obtain ⟨adK, adV, h1, h2, h3, h4⟩ := h
  have hk : ∀ a : Nat, a < s.heap.size → ¬ A a → H[a]? = s.heap[a]? := fun a q1 q2 => hS.2.1 a q1 q2
  exact ⟨adK, adV, h1.warm hW, by rw [hU]; exact ((h2.kept hk).moved hW.alike).narrow hAB, by rw [hU]; exact ((h3.kept hk).moved hW.alike).narrow hAB, by rw [hU]; exact ((h4.kept hk).moved hW.alike).narrow hAB⟩
theorem sw_Z.calling {U : State} {A : Nat → Prop} (g : JFrame) (mk : MethodId) (a : Array Value) (h : sw_Z U A) : sw_Z (U.calling g mk a) A := by
  obtain ⟨adK, adV, h1, h2, h3, h4⟩ := h
  exact ⟨adK, adV, vk_R.same (u := U) rfl h1, vk_S.moved (u := U) (U := U.calling g mk a) (Vm.Alike.refl U.vm) h2, va_Z.moved (u := U) (U := U.calling g mk a) (Vm.Alike.refl U.vm) h3, va_Zq.moved (u := U) (U := U.calling g mk a) (Vm.Alike.refl U.vm) h4⟩
def sw_HA (s : State) (A : Nat → Prop) : Prop := (∀ q, s.heap.size ≤ q → A q) ∧ sw_Z s A
/-- how a method ends: an answer and a store that are as asked, the world as the store says -/
def sw_Q (E : sw_E) (G : sw_G) (A : Nat → Prop) (Q : Option Value → sw_St → Prop) : Array Value → State → Outcome → State → Prop := fun _ st oc t =>
  (∃ (r : Option Value) (σ : sw_St), oc = .returned (r.map (sw_cv E.2.2.1)) ∧ Q r σ ∧ va_P E.2.1 vwCl (sw_w E G σ) t.heap ∧ va_K E.2.1 vwCl (sw_tys E) t ∧ va_D A (sw_w E G σ)) ∧ va_F A st t
/-- from here on the method comes to its end, and Q holds there -/
def sw_W (E : sw_E) (G : sw_G) (M : sw_M) (d : Nat) (pc : Nat) (L : sw_L) (st : List Value) (σ : sw_St) (Q : Option Value → sw_St → Prop) : Prop :=
  ∀ (p : Program) (e : Env) (s : State) (m : MethodId) (args : Array Value) (below : List Frame) (meth : Method) (c : Code), sw_C E M p s m args meth c →
    ∀ (A : Nat → Prop) (H : Heap) (locs : List Loc) (ls : Array Slot), sw_HA s A → va_P E.2.1 vwCl (sw_w E G σ) H → va_D A (sw_w E G σ) → va_S A s.heap H locs → lv_has ls M.2.2.1 (L.map fun q => (q.1, sw_cv E.2.2.1 q.2)) →
      W p E.1 e (sw_rm d) s m args below meth c H locs 0 0 (MQ below (sw_Q E G A Q) args s 0 0 A) (F0 m pc ls (st.map (sw_cv E.2.2.1)))
/-- a method's contract -/
def sw_K (E : sw_E) (G : sw_G) (M : sw_M) (d : Nat) (av : List Value) (σ : sw_St) (Q : Option Value → sw_St → Prop) : Prop :=
  ∀ sz : Nat, Met E.1 M.1 (sw_ws M) (sw_rm d) (va_Pc (av.map (sw_cv E.2.2.1)) (fun U => U.heap.size = sz ∧ va_P E.2.1 vwCl (sw_w E G σ) U.heap ∧ va_K E.2.1 vwCl (sw_tys E) U ∧ va_D (fun _ => True) (sw_w E G σ) ∧ sw_Z U (va_A (sw_w E G σ) sz))) (sw_Q E G (va_A (sw_w E G σ) sz) Q) 0 0 (va_A (sw_w E G σ) sz)
def sw_lk (L : sw_L) (x : Nat) : Option Value := match L with
  | [] => none
  | q :: r => if q.1 = x then some q.2 else sw_lk r x
theorem sw_lk_in {L : sw_L} {x : Nat} {v : Value} (h : sw_lk L x = some v) : (x, v) ∈ L := by
  induction L with
  | nil => cases h
  | cons q r ih =>
    unfold sw_lk at h
    split at h
    · next e => cases h; subst e; exact List.mem_cons_self
    · exact List.mem_cons_of_mem _ (ih h)
theorem sw_lk_has {L : sw_L} {x n : Nat} {v : Value} {ls : Array Slot} {a : Nat → Nat} (h : sw_lk L x = some v) (hl : lv_has ls n (L.map fun q => (q.1, sw_cv a q.2))) : ls[x]? = some (.val (sw_cv a v)) :=
  hl.2.2 (x, sw_cv a v) (List.mem_map.mpr ⟨(x, v), sw_lk_in h, rfl⟩)
/-- locals behind a store of one slot, of two -/
def sw_s1 (L : sw_L) (x : Nat) (v : Value) : sw_L := (x, v) :: L.filter (fun q => !(q.1 == x) && !(q.1 + 1 == x && q.2.category == 2))
def sw_s2 (L : sw_L) (x : Nat) (v : Value) : sw_L := (x, v) :: L.filter (fun q => !(q.1 == x) && (!(q.1 == x + 1) && !(q.1 + 1 == x && q.2.category == 2)))
theorem sw_cv_cat (a : Nat → Nat) (v : Value) : (sw_cv a v).category = v.category := by cases v <;> rfl
theorem sw_s1_map (a : Nat → Nat) (L : sw_L) (x : Nat) (v : Value) : (x, sw_cv a v) :: (L.map fun q => (q.1, sw_cv a q.2)).filter (fun q => !(q.1 == x) && !(q.1 + 1 == x && q.2.category == 2)) = (sw_s1 L x v).map fun q => (q.1, sw_cv a q.2) := by
  simp only [sw_s1, List.map_cons, List.filter_map, Function.comp_def, sw_cv_cat]
theorem sw_s2_map (a : Nat → Nat) (L : sw_L) (x : Nat) (v : Value) : (x, sw_cv a v) :: (L.map fun q => (q.1, sw_cv a q.2)).filter (fun q => !(q.1 == x) && (!(q.1 == x + 1) && !(q.1 + 1 == x && q.2.category == 2))) = (sw_s2 L x v).map fun q => (q.1, sw_cv a q.2) := by
  simp only [sw_s2, List.map_cons, List.filter_map, Function.comp_def, sw_cv_cat]

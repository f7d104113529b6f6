/-! THE CLAIM OUT OF ONE WALK OF THE LAW'S BODY. Your part is whole_start (and what it stands on); all else here is the same for every law, but numbers. -/
def R_law : String := "StrayWoolLaw"
def lw_P (b : Addr) (xs : List Int32) (args : Array Value) (s : State) : Prop := args = #[.ref b] ∧ s.IntsAt b xs ∧ xs.length ≤ 3072 ∧ (Jvm.Cond.and given_1 narrow_1).before args s = true
def lw_Q (_ : Array Value) (s : State) (o : Outcome) (t : State) : Prop := o = .returned (some (.int 1)) ∧ Framed s o t [] 600000 7302250
def lw_Z (below : List Frame) (a : Array Value) (s : State) : State → Prop := fun t => ∃ o, t.status = .running ∧ Ended t below o ∧ lw_Q a s o t
/-- the law's own end, with 1 on the stack, nothing written that was there before, its room as the claim has it -/
theorem lw_ret {p : Program} {l : Launch} {e : Env} {s : State} {m : MethodId} {below : List Frame} {meth : Method} {c : Code} {b : Nat} (hx : p.tables.exec = Jvm.exec) (hb : c.code = code) (hr : meth.sig.returnType = ret) (hlocks : meth.locks = false) {pc : Nat} {H : Heap} {ls : Array Slot} (hdg : decode code pc = .ok (.ireturn, 1)) : W p l e room_1 s m #[Value.ref b] below meth c H [] 600000 7302250 (lw_Z below #[Value.ref b] s) (F0 m pc ls [.int 1]) := by
  intro T hT X
  obtain ⟨fs, hret, hrun, hended, hW, hframe⟩ := X.leave (v := some (.int 1)) (hlocks := hlocks) (fun h => by rw [hr] at h; cases h)
  have hmeth' : T.vm.method? m = some meth := X.method'
  refine ⟨T.setFrames fs, ?_, .returned (some (.int 1)), hrun, hended, rfl, ⟨_, rfl⟩, hW, hframe⟩
  jvm_step X.here [X.here.top, hx, hb, hdg, hmeth', hr, ret, narrow_b1]
  (try refine ⟨rfl, ?_⟩); (try refine ⟨rfl, ?_⟩)
  first | (intro acts; rw [hret _ acts rfl rfl rfl]) | rw [hret _ _ rfl rfl rfl]
  exact Steps.refl _
/-- what holds at the law's entry: the machine, the code, the tables' words (any of lw_tbl by 'hts w (by decide +kernel)'), the script of L ints xs at the cell b, what the Statement gives of the start (any of its parts by flat_of_before) -/
def lw_At (p : Program) (s : State) (m : MethodId) (meth : Method) (c : Code) (b L : Nat) (xs : Nat → Int32) : Prop :=
  p.tables.exec = Jvm.exec ∧ c.code = code ∧ meth.sig.returnType = ret ∧ c.maxLocals = 4 ∧ s.vm.findClass R_law = some m.cls ∧ (∀ w ∈ lw_tbl, w.before #[Value.ref b] s = true) ∧ va_X b L xs s s.heap ∧ b < s.heap.size ∧ meth.locks = false ∧ (Jvm.Cond.and given_1 narrow_1).before #[Value.ref b] s = true
/-! What the start gives, by the tables' words. -/
theorem ws_at {args : Array Value} {s : State} (hts : ∀ w ∈ lw_tbl, w.before args s = true) (i : Nat) {w : Cond} (h : decide (lw_tbl[i]? = some w) = true) : w.before args s = true := hts w (List.mem_of_getElem? (of_decide_eq_true h))
theorem ws_kn {args : Array Value} {s : State} (hts : ∀ w ∈ lw_tbl, w.before args s = true) : ∀ k : Nat, ∃ x : ClassId × (Nat → Nat), ∀ q : vw_C, vwCl[k]? = some q → u_Kn s q.1 q.2.1 q.2.2 x.1 x.2 := fun k => by
  match k with
  | 0 =>
    obtain ⟨c, i, h⟩ := u_known (C := RX0) (T := TX0) (N := 2) (n := 2) hts inX0 (ws_at hts 190 (by decide +kernel))
    exact ⟨(c, i), fun q hq => by cases hq; exact h⟩
  | 1 =>
    obtain ⟨c, i, h⟩ := u_known (C := RX1) (T := TX1) (N := 12) (n := 12) hts inX1 (ws_at hts 469 (by decide +kernel))
    exact ⟨(c, i), fun q hq => by cases hq; exact h⟩
  | 2 =>
    obtain ⟨c, i, h⟩ := u_known (C := RX2) (T := TX2) (N := 3) (n := 3) hts inX2 (ws_at hts 355 (by decide +kernel))
    exact ⟨(c, i), fun q hq => by cases hq; exact h⟩
  | 3 =>
    obtain ⟨c, i, h⟩ := u_known (C := RX3) (T := TX3) (N := 4) (n := 4) hts inX3 (ws_at hts 336 (by decide +kernel))
    exact ⟨(c, i), fun q hq => by cases hq; exact h⟩
  | 4 =>
    obtain ⟨c, i, h⟩ := u_known (C := RX4) (T := TX4) (N := 3) (n := 3) hts inX4 (ws_at hts 514 (by decide +kernel))
    exact ⟨(c, i), fun q hq => by cases hq; exact h⟩
  | 5 =>
    obtain ⟨c, i, h⟩ := u_known (C := RX5) (T := TX5) (N := 4) (n := 4) hts inX5 (ws_at hts 534 (by decide +kernel))
    exact ⟨(c, i), fun q hq => by cases hq; exact h⟩
  | 6 =>
    obtain ⟨c, i, h⟩ := u_known (C := RX6) (T := TX6) (N := 7) (n := 7) hts inX6 (ws_at hts 156 (by decide +kernel))
    exact ⟨(c, i), fun q hq => by cases hq; exact h⟩
  | 7 =>
    obtain ⟨c, i, h⟩ := u_known (C := RX7) (T := TX7) (N := 3) (n := 3) hts inX7 (ws_at hts 363 (by decide +kernel))
    exact ⟨(c, i), fun q hq => by cases hq; exact h⟩
  | 8 =>
    obtain ⟨c, i, h⟩ := u_known (C := RX8) (T := TX8) (N := 12) (n := 12) hts inX8 (ws_at hts 393 (by decide +kernel))
    exact ⟨(c, i), fun q hq => by cases hq; exact h⟩
  | 9 =>
    obtain ⟨c, i, h⟩ := u_known (C := RX9) (T := TX9) (N := 18) (n := 18) hts inX9 (ws_at hts 209 (by decide +kernel))
    exact ⟨(c, i), fun q hq => by cases hq; exact h⟩
  | 10 =>
    obtain ⟨c, i, h⟩ := u_known (C := RX10) (T := TX10) (N := 14) (n := 14) hts inX10 (ws_at hts 148 (by decide +kernel))
    exact ⟨(c, i), fun q hq => by cases hq; exact h⟩
  | 11 =>
    obtain ⟨c, i, h⟩ := u_known (C := RX11) (T := TX11) (N := 106) (n := 106) hts inX11 (ws_at hts 1250 (by decide +kernel))
    exact ⟨(c, i), fun q hq => by cases hq; exact h⟩
  | k + 12 => exact ⟨(0, fun _ => 0), fun q hq => by simp at hq⟩
def ws_ty : List FieldType := [.int, .byte, .char, .long, .object RX8]
theorem ws_ar {args : Array Value} {s : State} (hts : ∀ w ∈ lw_tbl, w.before args s = true) : ∀ k : Nat, ∃ c : ClassId, ∀ t : FieldType, ws_ty[k]? = some t → ArrOfT s c t ∧ va_RA s c t := fun k => by
  match k with
  | 0 =>
    obtain ⟨c, kA, comp, h1, h2, h3⟩ := Cond.arrayClass_spec (ws_at hts 207 (w := .arrayClass .int) (by decide +kernel))
    exact ⟨c, fun t ht => by cases ht; exact ⟨fun n z => ⟨fun k h => (by cases h), kA, h2, comp, h3⟩, h1⟩⟩
  | 1 =>
    obtain ⟨c, kA, comp, h1, h2, h3⟩ := Cond.arrayClass_spec (ws_at hts 188 (w := .arrayClass .byte) (by decide +kernel))
    exact ⟨c, fun t ht => by cases ht; exact ⟨fun n z => ⟨fun k h => (by cases h), kA, h2, comp, h3⟩, h1⟩⟩
  | 2 =>
    obtain ⟨c, kA, comp, h1, h2, h3⟩ := Cond.arrayClass_spec (ws_at hts 1574 (w := .arrayClass .char) (by decide +kernel))
    exact ⟨c, fun t ht => by cases ht; exact ⟨fun n z => ⟨fun k h => (by cases h), kA, h2, comp, h3⟩, h1⟩⟩
  | 3 =>
    obtain ⟨c, kA, comp, h1, h2, h3⟩ := Cond.arrayClass_spec (ws_at hts 512 (w := .arrayClass .long) (by decide +kernel))
    exact ⟨c, fun t ht => by cases ht; exact ⟨fun n z => ⟨fun k h => (by cases h), kA, h2, comp, h3⟩, h1⟩⟩
  | 4 =>
    obtain ⟨comp, c, kA, h1, h2, h3, h4, h5⟩ := Cond.arrayOver_spec (ws_at hts 520 (w := .arrayOver (.object RX8)) (by decide +kernel))
    exact ⟨c, fun t ht => by cases ht; exact ⟨fun n z => ⟨fun k h => (by cases h), kA, h3, comp, h4⟩, kA, comp, h3, h4, h1, h5⟩⟩
  | k + 5 => exact ⟨0, fun t ht => by simp [ws_ty] at ht⟩
theorem ws_K {args : Array Value} {s : State} (hts : ∀ w ∈ lw_tbl, w.before args s = true) : ∃ (D : va_G) (cA : Nat → ClassId), ∀ (l : Launch) (a : Nat → Nat), va_K D vwCl (sw_tys (l, D, a, cA)) s := by
  obtain ⟨f, hf⟩ := Classical.axiomOfChoice (ws_kn hts)
  obtain ⟨g, hg⟩ := Classical.axiomOfChoice (ws_ar hts)
  refine ⟨(fun k => (f k).1, fun k => (f k).2), g, fun l a => ⟨fun c q hq => hf c q hq, fun k q hk => ?_⟩⟩
  match k, hk with
  | 0, hk => cases hk; exact hg 0 _ rfl
  | 1, hk => cases hk; exact hg 1 _ rfl
  | 2, hk => cases hk; exact hg 2 _ rfl
  | 3, hk => cases hk; exact hg 3 _ rfl
  | 4, hk => cases hk; exact hg 4 _ rfl
  | k + 5, hk => simp [sw_tys] at hk
theorem ws_N {args : Array Value} {s : State} (hts : ∀ w ∈ lw_tbl, w.before args s = true) : sc_N s := by
  refine ⟨fun q hq => ?_, va_AO.of (ws_at hts 520 (by decide +kernel))⟩
  unfold sc_nl at hq
  rcases List.mem_cons.mp hq with e | hq
  · rw [e]
    exact va_Nw.of rfl (ws_at hts 157 (by decide +kernel))
  rcases List.mem_cons.mp hq with e | hq
  · rw [e]
    exact va_Nw.of rfl (ws_at hts 191 (by decide +kernel))
  rcases List.mem_cons.mp hq with e | hq
  · rw [e]
    exact va_Nw.of rfl (ws_at hts 356 (by decide +kernel))
  rcases List.mem_cons.mp hq with e | hq
  · rw [e]
    exact va_Nw.of rfl (ws_at hts 394 (by decide +kernel))
  rcases List.mem_cons.mp hq with e | hq
  · rw [e]
    exact va_Nw.of rfl (ws_at hts 535 (by decide +kernel))
  rcases List.mem_cons.mp hq with e | hq
  · rw [e]
    exact va_Nw.of rfl (ws_at hts 364 (by decide +kernel))
  rcases List.mem_cons.mp hq with e | hq
  · rw [e]
    exact va_Nw.of rfl (ws_at hts 521 (by decide +kernel))
  rcases List.mem_cons.mp hq with e | hq
  · rw [e]
    exact va_Nw.of rfl (ws_at hts 215 (by decide +kernel))
  cases hq
def ws_f (j : Nat) : Cond := Cond.eq (.elem (.field (.string "StrayWool$Reader" 54) "java/lang/String" "value" "[B") (.int (Int32.ofNat j))) (.int (sw_wl.getD j 0))
def ws_fl : List Cond := (flatC (Jvm.Cond.and given_1 narrow_1)).drop 13
theorem ws_e0 : (List.range 10).map (fun i => ws_fl[0 + i]?) = (List.range 10).map (fun i => some (ws_f (0 + i))) := by decide +kernel
theorem ws_e10 : (List.range 10).map (fun i => ws_fl[10 + i]?) = (List.range 10).map (fun i => some (ws_f (10 + i))) := by decide +kernel
theorem ws_e20 : (List.range 10).map (fun i => ws_fl[20 + i]?) = (List.range 10).map (fun i => some (ws_f (20 + i))) := by decide +kernel
theorem ws_e30 : (List.range 10).map (fun i => ws_fl[30 + i]?) = (List.range 10).map (fun i => some (ws_f (30 + i))) := by decide +kernel
theorem ws_e40 : (List.range 10).map (fun i => ws_fl[40 + i]?) = (List.range 10).map (fun i => some (ws_f (40 + i))) := by decide +kernel
theorem ws_e50 : (List.range 10).map (fun i => ws_fl[50 + i]?) = (List.range 10).map (fun i => some (ws_f (50 + i))) := by decide +kernel
theorem ws_e60 : (List.range 10).map (fun i => ws_fl[60 + i]?) = (List.range 10).map (fun i => some (ws_f (60 + i))) := by decide +kernel
theorem ws_e70 : (List.range 10).map (fun i => ws_fl[70 + i]?) = (List.range 10).map (fun i => some (ws_f (70 + i))) := by decide +kernel
theorem ws_e80 : (List.range 10).map (fun i => ws_fl[80 + i]?) = (List.range 10).map (fun i => some (ws_f (80 + i))) := by decide +kernel
theorem ws_e90 : (List.range 10).map (fun i => ws_fl[90 + i]?) = (List.range 10).map (fun i => some (ws_f (90 + i))) := by decide +kernel
theorem ws_e100 : (List.range 10).map (fun i => ws_fl[100 + i]?) = (List.range 10).map (fun i => some (ws_f (100 + i))) := by decide +kernel
theorem ws_e110 : (List.range 10).map (fun i => ws_fl[110 + i]?) = (List.range 10).map (fun i => some (ws_f (110 + i))) := by decide +kernel
theorem ws_e120 : (List.range 10).map (fun i => ws_fl[120 + i]?) = (List.range 10).map (fun i => some (ws_f (120 + i))) := by decide +kernel
theorem ws_e130 : (List.range 10).map (fun i => ws_fl[130 + i]?) = (List.range 10).map (fun i => some (ws_f (130 + i))) := by decide +kernel
theorem ws_e140 : (List.range 10).map (fun i => ws_fl[140 + i]?) = (List.range 10).map (fun i => some (ws_f (140 + i))) := by decide +kernel
theorem ws_e150 : (List.range 8).map (fun i => ws_fl[150 + i]?) = (List.range 8).map (fun i => some (ws_f (150 + i))) := by decide +kernel
theorem ws_eg {k m j : Nat} (h : (List.range m).map (fun i => ws_fl[k + i]?) = (List.range m).map (fun i => some (ws_f (k + i)))) (h1 : k ≤ j) (h2 : j < k + m) : ws_f j ∈ flatC (Jvm.Cond.and given_1 narrow_1) := by
  have h3 := congrArg (fun l => l[j - k]?) h
  have h4 : j - k < m := by omega
  simp only [List.getElem?_map, List.getElem?_range h4, Option.map_some] at h3
  have h5 := Option.some.inj h3
  rw [show k + (j - k) = j by omega] at h5
  exact List.mem_of_mem_drop (List.mem_of_getElem? h5)
theorem ws_el (j : Nat) (hj : j < 158) : ws_f j ∈ flatC (Jvm.Cond.and given_1 narrow_1) := by
  by_cases c0 : j < 10
  · exact ws_eg ws_e0 (by omega) (by omega)
  by_cases c10 : j < 20
  · exact ws_eg ws_e10 (by omega) (by omega)
  by_cases c20 : j < 30
  · exact ws_eg ws_e20 (by omega) (by omega)
  by_cases c30 : j < 40
  · exact ws_eg ws_e30 (by omega) (by omega)
  by_cases c40 : j < 50
  · exact ws_eg ws_e40 (by omega) (by omega)
  by_cases c50 : j < 60
  · exact ws_eg ws_e50 (by omega) (by omega)
  by_cases c60 : j < 70
  · exact ws_eg ws_e60 (by omega) (by omega)
  by_cases c70 : j < 80
  · exact ws_eg ws_e70 (by omega) (by omega)
  by_cases c80 : j < 90
  · exact ws_eg ws_e80 (by omega) (by omega)
  by_cases c90 : j < 100
  · exact ws_eg ws_e90 (by omega) (by omega)
  by_cases c100 : j < 110
  · exact ws_eg ws_e100 (by omega) (by omega)
  by_cases c110 : j < 120
  · exact ws_eg ws_e110 (by omega) (by omega)
  by_cases c120 : j < 130
  · exact ws_eg ws_e120 (by omega) (by omega)
  by_cases c130 : j < 140
  · exact ws_eg ws_e130 (by omega) (by omega)
  by_cases c140 : j < 150
  · exact ws_eg ws_e140 (by omega) (by omega)
  exact ws_eg ws_e150 (by omega) (by omega)
theorem ws_Z {b : Nat} {s : State} (hts : ∀ w ∈ lw_tbl, w.before #[Value.ref b] s = true) (hgv : (Jvm.Cond.and given_1 narrow_1).before #[Value.ref b] s = true) : sw_Z s (fun q => s.heap.size ≤ q) := by
  have hs := flat_of_before _ hgv
  have hA : ∀ a : Nat, a < s.heap.size → ¬ (fun q : Nat => s.heap.size ≤ q) a := fun a h => Nat.not_le.mpr h
  obtain ⟨adK, adV, h1, h2⟩ := vk_Sof (args := #[Value.ref b]) (s := s) (N := 1) (tm := fun _ => Term.string "StrayWool$Reader" 54) (len := [158]) (byt := [sw_wl]) (A := fun q => s.heap.size ≤ q)
    (fun i hi => by rw [show i = 0 by omega]; decide)
    (fun i hi => hs _ (by decide +kernel)) (fun i hi => hs _ (by decide +kernel)) (fun i hi => hs _ (by decide +kernel))
    (fun i hi => by rw [show i = 0 by omega]; exact hs _ (by decide +kernel))
    (fun i hi j hj => by
      rw [show i = 0 by omega] at hj ⊢
      exact hs _ (ws_el j hj))
    (fun i j hi hj hij => by omega) hA
  refine ⟨adK, adV, vk_R.of (ws_at hts 645 (by decide +kernel)) (h2 0 (by omega)), h1, va_Zof (ws_at hts 655 (by decide +kernel)) (ws_at hts 140 (by decide +kernel)) (va_eqt (hs _ (by decide +kernel))) hA, va_Zqof (ws_at hts 671 (by decide +kernel)) (ws_at hts 142 (by decide +kernel)) (hs _ (by decide +kernel)) hA⟩

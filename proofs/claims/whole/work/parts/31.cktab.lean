/-! What the constructors call and make. -/
def m_X0_init : sw_M := (yX0_init, cX0_init, 1, none, 0)
set_option maxRecDepth 100000 in
theorem mk_X0_init : sw_ok m_X0_init ∧ Cond.instanceMethod yX0_init ∈ sw_T := ⟨⟨sw_T_of (sw_t1 (List.mem_of_getElem? (i := 67) rfl)) rfl, sw_T_at 129 (by decide +kernel), by decide, by decide +kernel, by decide +kernel⟩, sw_T_at 192 (by decide +kernel)⟩
def m_X1_init : sw_M := (yX1_init, cX1_init, 4, none, 1)
set_option maxRecDepth 100000 in
theorem mk_X1_init : sw_ok m_X1_init ∧ Cond.instanceMethod yX1_init ∈ sw_T := ⟨⟨sw_T_of (sw_t2 (List.mem_of_getElem? (i := 106) rfl)) rfl, sw_T_at 135 (by decide +kernel), by decide, by decide +kernel, by decide +kernel⟩, sw_T_at 471 (by decide +kernel)⟩
def m_X2_init : sw_M := (yX2_init, cX2_init, 1, none, 2)
set_option maxRecDepth 100000 in
theorem mk_X2_init : sw_ok m_X2_init ∧ Cond.instanceMethod yX2_init ∈ sw_T := ⟨⟨sw_T_of (sw_t1 (List.mem_of_getElem? (i := 232) rfl)) rfl, sw_T_at 132 (by decide +kernel), by decide, by decide +kernel, by decide +kernel⟩, sw_T_at 357 (by decide +kernel)⟩
def m_X3_init : sw_M := (yX3_init, cX3_init, 3, none, 3)
set_option maxRecDepth 100000 in
theorem mk_X3_init : sw_ok m_X3_init ∧ Cond.instanceMethod yX3_init ∈ sw_T := ⟨⟨sw_T_of (sw_t1 (List.mem_of_getElem? (i := 213) rfl)) rfl, sw_T_at 131 (by decide +kernel), by decide, by decide +kernel, by decide +kernel⟩, sw_T_at 338 (by decide +kernel)⟩
def m_X4_init : sw_M := (yX4_init, cX4_init, 2, none, 4)
set_option maxRecDepth 100000 in
theorem mk_X4_init : sw_ok m_X4_init ∧ Cond.instanceMethod yX4_init ∈ sw_T := ⟨⟨sw_T_of (sw_t2 (List.mem_of_getElem? (i := 151) rfl)) rfl, sw_T_at 136 (by decide +kernel), by decide, by decide +kernel, by decide +kernel⟩, sw_T_at 516 (by decide +kernel)⟩
def m_X5_init : sw_M := (yX5_init, cX5_init, 1, none, 5)
set_option maxRecDepth 100000 in
theorem mk_X5_init : sw_ok m_X5_init ∧ Cond.instanceMethod yX5_init ∈ sw_T := ⟨⟨sw_T_of (sw_t2 (List.mem_of_getElem? (i := 171) rfl)) rfl, sw_T_at 137 (by decide +kernel), by decide, by decide +kernel, by decide +kernel⟩, sw_T_at 536 (by decide +kernel)⟩
def m_X6_init : sw_M := (yX6_init, cX6_init, 1, none, 6)
set_option maxRecDepth 100000 in
theorem mk_X6_init : sw_ok m_X6_init ∧ Cond.instanceMethod yX6_init ∈ sw_T := ⟨⟨sw_T_of (sw_t1 (List.mem_of_getElem? (i := 33) rfl)) rfl, sw_T_at 128 (by decide +kernel), by decide, by decide +kernel, by decide +kernel⟩, sw_T_at 158 (by decide +kernel)⟩
def m_X7_init : sw_M := (yX7_init, cX7_init, 1, none, 7)
set_option maxRecDepth 100000 in
theorem mk_X7_init : sw_ok m_X7_init ∧ Cond.instanceMethod yX7_init ∈ sw_T := ⟨⟨sw_T_of (sw_t2 (List.mem_of_getElem? (i := 0) rfl)) rfl, sw_T_at 133 (by decide +kernel), by decide, by decide +kernel, by decide +kernel⟩, sw_T_at 365 (by decide +kernel)⟩
def m_X8_init : sw_M := (yX8_init, cX8_init, 1, none, 8)
set_option maxRecDepth 100000 in
theorem mk_X8_init : sw_ok m_X8_init ∧ Cond.instanceMethod yX8_init ∈ sw_T := ⟨⟨sw_T_of (sw_t2 (List.mem_of_getElem? (i := 30) rfl)) rfl, sw_T_at 134 (by decide +kernel), by decide, by decide +kernel, by decide +kernel⟩, sw_T_at 395 (by decide +kernel)⟩
def m_X9_init : sw_M := (yX9_init, cX9_init, 1, none, 9)
set_option maxRecDepth 100000 in
theorem mk_X9_init : sw_ok m_X9_init ∧ Cond.instanceMethod yX9_init ∈ sw_T := ⟨⟨sw_T_of (sw_t1 (List.mem_of_getElem? (i := 86) rfl)) rfl, sw_T_at 130 (by decide +kernel), by decide, by decide +kernel, by decide +kernel⟩, sw_T_at 211 (by decide +kernel)⟩
def m_X10_init : sw_M := (yX10_init, cX10_init, 1, none, 10)
set_option maxRecDepth 100000 in
theorem mk_X10_init : sw_ok m_X10_init ∧ Cond.instanceMethod yX10_init ∈ sw_T := ⟨⟨sw_T_of (sw_t1 (List.mem_of_getElem? (i := 25) rfl)) rfl, sw_T_at 127 (by decide +kernel), by decide, by decide +kernel, by decide +kernel⟩, sw_T_at 150 (by decide +kernel)⟩
def m_X11_init : sw_M := (yX11_init, cX11_init, 1, none, 11)
set_option maxRecDepth 100000 in
theorem mk_X11_init : sw_ok m_X11_init ∧ Cond.instanceMethod yX11_init ∈ sw_T := ⟨⟨sw_T_of (sw_t5 (List.mem_of_getElem? (i := 167) rfl)) rfl, sw_T_at 138 (by decide +kernel), by decide, by decide +kernel, by decide +kernel⟩, sw_T_at 1252 (by decide +kernel)⟩
def sc_cl : List (Nat × Nat × Nat × Nat × Nat × Nat) := [(10, 13, 6, 155, 156, 128), (10, 20, 0, 189, 190, 129), (10, 27, 9, 208, 209, 130), (9, 36, 0, 214, 190, 129), (10, 34, 3, 335, 336, 131), (10, 43, 2, 354, 355, 132), (2, 9, 9, 360, 209, 130), (2, 18, 7, 362, 363, 133), (10, 50, 8, 392, 393, 134), (10, 60, 1, 468, 469, 135), (10, 69, 4, 513, 514, 136), (4, 9, 8, 519, 393, 134), (10, 76, 5, 533, 534, 137)]
set_option maxRecDepth 1000000 in
theorem sc_cl_ok : (sc_cl.all fun q => sw_ckw [(q.2.2.2.1, .classLink (sw_nm q.1) q.2.1 (sw_nm q.2.2.1)), (q.2.2.2.2.1, .instantiable (sw_nm q.2.2.1) (sw_nf q.2.2.1)), (q.2.2.2.2.2, .initialized (sw_nm q.2.2.1))] && decide (q.2.2.1 < 12)) = true := by decide +kernel
def sc_clL (own idx : Nat) : Option Nat := (sc_cl.find? fun q => q.1 == own && q.2.1 == idx).map fun q => q.2.2.1
theorem sc_cl_in {own idx c : Nat} (h : sc_clL own idx = some c) : c < 12 ∧ Cond.classLink (sw_nm own) idx (sw_nm c) ∈ sw_T ∧ Cond.instantiable (sw_nm c) (sw_nf c) ∈ sw_T ∧ Cond.initialized (sw_nm c) ∈ sw_T := by
  unfold sc_clL at h
  obtain ⟨q, hq, rfl⟩ := Option.map_eq_some_iff.mp h
  have h1 := List.mem_of_find?_eq_some hq
  have h2 := List.find?_some hq
  have h3 := List.all_eq_true.mp sc_cl_ok q h1
  rw [Bool.and_eq_true] at h3
  simp only [Bool.and_eq_true, beq_iff_eq] at h2
  rw [← h2.1, ← h2.2]
  exact ⟨of_decide_eq_true h3.2, sw_ckw_in h3.1 0 rfl, sw_ckw_in h3.1 1 rfl, sw_ckw_in h3.1 2 rfl⟩
def sc_oi : List (Nat × Nat × Nat) := [(10, 3, 152), (0, 3, 194), (1, 3, 473), (2, 3, 359), (3, 3, 340), (4, 3, 518), (5, 3, 538), (6, 3, 160), (7, 3, 367), (8, 3, 397), (9, 3, 213), (11, 1, 1254)]
set_option maxRecDepth 1000000 in
theorem sc_oi_ok : (sc_oi.all fun q => sw_ckw [(q.2.2, .methodLink (sw_nm q.1) q.2.1 objectInit)]) = true := by decide +kernel
def sc_oiL (own idx : Nat) : Bool := (sc_oi.find? fun q => q.1 == own && q.2.1 == idx).isSome
theorem sc_oi_in {own idx : Nat} (h : sc_oiL own idx = true) : Cond.methodLink (sw_nm own) idx objectInit ∈ sw_T := by
  unfold sc_oiL at h
  obtain ⟨q, hq⟩ := Option.isSome_iff_exists.mp h
  have h1 := List.mem_of_find?_eq_some hq
  have h2 := List.find?_some hq
  have h3 := List.all_eq_true.mp sc_oi_ok q h1
  simp only [Bool.and_eq_true, beq_iff_eq] at h2
  rw [← h2.1, ← h2.2]
  exact sw_ckw_in h3 0 rfl
theorem sc_oiI : Cond.instanceMethod objectInit ∈ sw_T := sw_T_at 153 (by decide +kernel)
theorem sc_oiC : Cond.code objectInit ⟨#[0xb1]⟩ 1 none ∈ sw_T := sw_T_at 154 (by decide +kernel)
/-- calls by own class and number: the method, its arguments, how it is linked -/
def sc_mlt : List (Nat × Nat × sw_M × Nat × Nat) := [(10, 15, m_X6_init, 0, 1), (10, 22, m_X0_init, 0, 1), (10, 29, m_X9_init, 0, 0), (10, 36, m_X3_init, 2, 0), (10, 45, m_X2_init, 0, 1), (10, 52, m_X8_init, 0, 1), (10, 62, m_X1_init, 3, 0), (10, 71, m_X4_init, 0, 0), (10, 78, m_X5_init, 0, 1), (2, 11, m_X9_init, 0, 0), (2, 20, m_X7_init, 0, 1), (4, 17, m_X8_init, 0, 1), (9, 38, m_X0_init, 0, 1), (3, 30, m_X9_clear, 0, 2), (3, 171, m_X0_emit, 1, 2), (9, 49, m_X9_clear, 0, 2), (9, 77, m_X0_emit, 1, 2), (9, 81, m_X9_setFormula, 3, 2)]
def sc_ml (own idx : Nat) : Option (sw_M × Nat × Nat) := (sc_mlt.find? fun q => q.1 == own && q.2.1 == idx).map fun q => q.2.2
theorem sc_l_10_29 : Cond.methodLink (sw_nm 10) 29 yX9_init ∈ sw_T := sw_T_at 210 (by decide +kernel)
theorem sc_l_10_36 : Cond.methodLink (sw_nm 10) 36 yX3_init ∈ sw_T := sw_T_at 337 (by decide +kernel)
theorem sc_l_10_62 : Cond.methodLink (sw_nm 10) 62 yX1_init ∈ sw_T := sw_T_at 470 (by decide +kernel)
theorem sc_l_10_71 : Cond.methodLink (sw_nm 10) 71 yX4_init ∈ sw_T := sw_T_at 515 (by decide +kernel)
theorem sc_l_2_11 : Cond.methodLink (sw_nm 2) 11 yX9_init ∈ sw_T := sw_T_at 361 (by decide +kernel)
def sc_good (own idx : Nat) (N : sw_M) (n kd : Nat) : Prop := sw_ok N ∧ Cond.instanceMethod N.1 ∈ sw_T ∧ N.2.2.2.1 = none ∧ (parseMethodDescriptor N.1.desc).map (fun d => d.parameters.length) = some n ∧ plainName N.1.cls = true ∧ sw_nm N.2.2.2.2 = N.1.cls ∧ N.2.2.2.2 < 12 ∧ ((kd = 0 ∧ N.1.name = "<init>" ∧ Cond.methodLink (sw_nm own) idx N.1 ∈ sw_T) ∨ (kd = 1 ∧ N.1.name = "<init>" ∧ (own, idx, N.1) ∈ sc_nl) ∨ (kd = 2 ∧ Cond.selects N.1.cls N.1 N.1 ∈ sw_T ∧ Cond.methodLink (sw_nm own) idx N.1 ∈ sw_T))
theorem sc_mlt_ok : ∀ q ∈ sc_mlt, sc_good q.1 q.2.1 q.2.2.1 q.2.2.2.1 q.2.2.2.2 :=
  List.forall_mem_cons.mpr ⟨(⟨mk_X6_init.1, mk_X6_init.2, rfl, by decide +kernel, by decide +kernel, rfl, by decide, Or.inr (Or.inl ⟨rfl, rfl, List.mem_of_getElem? (i := 0) rfl⟩)⟩ : sc_good 10 15 m_X6_init 0 1),
  List.forall_mem_cons.mpr ⟨(⟨mk_X0_init.1, mk_X0_init.2, rfl, by decide +kernel, by decide +kernel, rfl, by decide, Or.inr (Or.inl ⟨rfl, rfl, List.mem_of_getElem? (i := 1) rfl⟩)⟩ : sc_good 10 22 m_X0_init 0 1),
  List.forall_mem_cons.mpr ⟨(⟨mk_X9_init.1, mk_X9_init.2, rfl, by decide +kernel, by decide +kernel, rfl, by decide, Or.inl ⟨rfl, rfl, sc_l_10_29⟩⟩ : sc_good 10 29 m_X9_init 0 0),
  List.forall_mem_cons.mpr ⟨(⟨mk_X3_init.1, mk_X3_init.2, rfl, by decide +kernel, by decide +kernel, rfl, by decide, Or.inl ⟨rfl, rfl, sc_l_10_36⟩⟩ : sc_good 10 36 m_X3_init 2 0),
  List.forall_mem_cons.mpr ⟨(⟨mk_X2_init.1, mk_X2_init.2, rfl, by decide +kernel, by decide +kernel, rfl, by decide, Or.inr (Or.inl ⟨rfl, rfl, List.mem_of_getElem? (i := 2) rfl⟩)⟩ : sc_good 10 45 m_X2_init 0 1),
  List.forall_mem_cons.mpr ⟨(⟨mk_X8_init.1, mk_X8_init.2, rfl, by decide +kernel, by decide +kernel, rfl, by decide, Or.inr (Or.inl ⟨rfl, rfl, List.mem_of_getElem? (i := 3) rfl⟩)⟩ : sc_good 10 52 m_X8_init 0 1),
  List.forall_mem_cons.mpr ⟨(⟨mk_X1_init.1, mk_X1_init.2, rfl, by decide +kernel, by decide +kernel, rfl, by decide, Or.inl ⟨rfl, rfl, sc_l_10_62⟩⟩ : sc_good 10 62 m_X1_init 3 0),
  List.forall_mem_cons.mpr ⟨(⟨mk_X4_init.1, mk_X4_init.2, rfl, by decide +kernel, by decide +kernel, rfl, by decide, Or.inl ⟨rfl, rfl, sc_l_10_71⟩⟩ : sc_good 10 71 m_X4_init 0 0),
  List.forall_mem_cons.mpr ⟨(⟨mk_X5_init.1, mk_X5_init.2, rfl, by decide +kernel, by decide +kernel, rfl, by decide, Or.inr (Or.inl ⟨rfl, rfl, List.mem_of_getElem? (i := 4) rfl⟩)⟩ : sc_good 10 78 m_X5_init 0 1),
  List.forall_mem_cons.mpr ⟨(⟨mk_X9_init.1, mk_X9_init.2, rfl, by decide +kernel, by decide +kernel, rfl, by decide, Or.inl ⟨rfl, rfl, sc_l_2_11⟩⟩ : sc_good 2 11 m_X9_init 0 0),
  List.forall_mem_cons.mpr ⟨(⟨mk_X7_init.1, mk_X7_init.2, rfl, by decide +kernel, by decide +kernel, rfl, by decide, Or.inr (Or.inl ⟨rfl, rfl, List.mem_of_getElem? (i := 5) rfl⟩)⟩ : sc_good 2 20 m_X7_init 0 1),
  List.forall_mem_cons.mpr ⟨(⟨mk_X8_init.1, mk_X8_init.2, rfl, by decide +kernel, by decide +kernel, rfl, by decide, Or.inr (Or.inl ⟨rfl, rfl, List.mem_of_getElem? (i := 6) rfl⟩)⟩ : sc_good 4 17 m_X8_init 0 1),
  List.forall_mem_cons.mpr ⟨(⟨mk_X0_init.1, mk_X0_init.2, rfl, by decide +kernel, by decide +kernel, rfl, by decide, Or.inr (Or.inl ⟨rfl, rfl, List.mem_of_getElem? (i := 7) rfl⟩)⟩ : sc_good 9 38 m_X0_init 0 1),
  List.forall_mem_cons.mpr ⟨(⟨mk_X9_clear.1, mk_X9_clear.2.1, rfl, by decide +kernel, by decide +kernel, rfl, by decide, Or.inr (Or.inr ⟨rfl, mk_X9_clear.2.2, ln_3_30⟩)⟩ : sc_good 3 30 m_X9_clear 0 2),
  List.forall_mem_cons.mpr ⟨(⟨mk_X0_emit.1, mk_X0_emit.2.1, rfl, by decide +kernel, by decide +kernel, rfl, by decide, Or.inr (Or.inr ⟨rfl, mk_X0_emit.2.2, ln_3_171⟩)⟩ : sc_good 3 171 m_X0_emit 1 2),
  List.forall_mem_cons.mpr ⟨(⟨mk_X9_clear.1, mk_X9_clear.2.1, rfl, by decide +kernel, by decide +kernel, rfl, by decide, Or.inr (Or.inr ⟨rfl, mk_X9_clear.2.2, ln_9_49⟩)⟩ : sc_good 9 49 m_X9_clear 0 2),
  List.forall_mem_cons.mpr ⟨(⟨mk_X0_emit.1, mk_X0_emit.2.1, rfl, by decide +kernel, by decide +kernel, rfl, by decide, Or.inr (Or.inr ⟨rfl, mk_X0_emit.2.2, ln_9_77⟩)⟩ : sc_good 9 77 m_X0_emit 1 2),
  List.forall_mem_cons.mpr ⟨(⟨mk_X9_setFormula.1, mk_X9_setFormula.2.1, rfl, by decide +kernel, by decide +kernel, rfl, by decide, Or.inr (Or.inr ⟨rfl, mk_X9_setFormula.2.2, ln_9_81⟩)⟩ : sc_good 9 81 m_X9_setFormula 3 2),
  fun _ h => absurd h List.not_mem_nil⟩⟩⟩⟩⟩⟩⟩⟩⟩⟩⟩⟩⟩⟩⟩⟩⟩⟩
theorem sc_ml_ok {own idx n kd : Nat} {N : sw_M} (h : sc_ml own idx = some (N, n, kd)) : sc_good own idx N n kd := by
  unfold sc_ml at h
  obtain ⟨q, hq, he⟩ := Option.map_eq_some_iff.mp h
  have h1 := List.mem_of_find?_eq_some hq
  have h2 := List.find?_some hq
  have h3 := sc_mlt_ok q h1
  simp only [Bool.and_eq_true, beq_iff_eq] at h2
  rw [h2.1, h2.2, he] at h3
  exact h3

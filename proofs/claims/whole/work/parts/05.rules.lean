/-! One rule an instruction. -/
section sw_rules
variable {E : sw_E} {G : sw_G} {M : sw_M} {d pc : Nat} {L : sw_L} {st : List Value} {σ : sw_St} {Q : Option Value → sw_St → Prop}
theorem so_iconst {n : Int} {v : Int32} (hd : decode M.2.1 pc = .ok (.iconst n, 1)) (hv : Int32.ofInt n = v) (k : sw_W E G M d (pc + 1) L (.int v :: st) σ Q) : sw_W E G M d pc L (st) σ Q :=
  fun p e s m args below meth c C A H locs ls hA hP hD hS hl => lv_iconst C.1 C.2.1 hd hv (k p e s m args below meth c C A H locs ls hA hP hD hS hl)
theorem so_bipush {n : Int} {v : Int32} (hd : decode M.2.1 pc = .ok (.bipush n, 2)) (hv : (Int8.ofInt n).toInt32 = v) (k : sw_W E G M d (pc + 2) L (.int v :: st) σ Q) : sw_W E G M d pc L (st) σ Q :=
  fun p e s m args below meth c C A H locs ls hA hP hD hS hl => lv_bipush C.1 C.2.1 hd hv (k p e s m args below meth c C A H locs ls hA hP hD hS hl)
theorem so_sipush {n : Int} {v : Int32} (hd : decode M.2.1 pc = .ok (.sipush n, 3)) (hv : (Int16.ofInt n).toInt32 = v) (k : sw_W E G M d (pc + 3) L (.int v :: st) σ Q) : sw_W E G M d pc L (st) σ Q :=
  fun p e s m args below meth c C A H locs ls hA hP hD hS hl => lv_sipush C.1 C.2.1 hd hv (k p e s m args below meth c C A H locs ls hA hP hD hS hl)
theorem so_lconst {n : Fin 2} {v : Int64} (hd : decode M.2.1 pc = .ok (.lconst n, 1)) (hv : Int64.ofNat (n : Nat) = v) (k : sw_W E G M d (pc + 1) L (.long v :: st) σ Q) : sw_W E G M d pc L (st) σ Q :=
  fun p e s m args below meth c C A H locs ls hA hP hD hS hl => lv_lconst C.1 C.2.1 hd hv (k p e s m args below meth c C A H locs ls hA hP hD hS hl)
theorem so_iadd {x y : Int32} (hd : decode M.2.1 pc = .ok (.iadd, 1)) (k : sw_W E G M d (pc + 1) L (.int (x + y) :: st) σ Q) : sw_W E G M d pc L (.int y :: .int x :: st) σ Q :=
  fun p e s m args below meth c C A H locs ls hA hP hD hS hl => lv_iadd C.1 C.2.1 hd (k p e s m args below meth c C A H locs ls hA hP hD hS hl)
theorem so_isub {x y : Int32} (hd : decode M.2.1 pc = .ok (.isub, 1)) (k : sw_W E G M d (pc + 1) L (.int (x - y) :: st) σ Q) : sw_W E G M d pc L (.int y :: .int x :: st) σ Q :=
  fun p e s m args below meth c C A H locs ls hA hP hD hS hl => lv_isub C.1 C.2.1 hd (k p e s m args below meth c C A H locs ls hA hP hD hS hl)
theorem so_imul {x y : Int32} (hd : decode M.2.1 pc = .ok (.imul, 1)) (k : sw_W E G M d (pc + 1) L (.int (x * y) :: st) σ Q) : sw_W E G M d pc L (.int y :: .int x :: st) σ Q :=
  fun p e s m args below meth c C A H locs ls hA hP hD hS hl => lv_imul C.1 C.2.1 hd (k p e s m args below meth c C A H locs ls hA hP hD hS hl)
theorem so_iand {x y : Int32} (hd : decode M.2.1 pc = .ok (.iand, 1)) (k : sw_W E G M d (pc + 1) L (.int (x &&& y) :: st) σ Q) : sw_W E G M d pc L (.int y :: .int x :: st) σ Q :=
  fun p e s m args below meth c C A H locs ls hA hP hD hS hl => lv_iand C.1 C.2.1 hd (k p e s m args below meth c C A H locs ls hA hP hD hS hl)
theorem so_ior {x y : Int32} (hd : decode M.2.1 pc = .ok (.ior, 1)) (k : sw_W E G M d (pc + 1) L (.int (x ||| y) :: st) σ Q) : sw_W E G M d pc L (.int y :: .int x :: st) σ Q :=
  fun p e s m args below meth c C A H locs ls hA hP hD hS hl => lv_ior C.1 C.2.1 hd (k p e s m args below meth c C A H locs ls hA hP hD hS hl)
theorem so_ixor {x y : Int32} (hd : decode M.2.1 pc = .ok (.ixor, 1)) (k : sw_W E G M d (pc + 1) L (.int (x ^^^ y) :: st) σ Q) : sw_W E G M d pc L (.int y :: .int x :: st) σ Q :=
  fun p e s m args below meth c C A H locs ls hA hP hD hS hl => lv_ixor C.1 C.2.1 hd (k p e s m args below meth c C A H locs ls hA hP hD hS hl)
theorem so_ishl {x y : Int32} (hd : decode M.2.1 pc = .ok (.ishl, 1)) (k : sw_W E G M d (pc + 1) L (.int (x <<< (y &&& 31)) :: st) σ Q) : sw_W E G M d pc L (.int y :: .int x :: st) σ Q :=
  fun p e s m args below meth c C A H locs ls hA hP hD hS hl => lv_ishl C.1 C.2.1 hd (k p e s m args below meth c C A H locs ls hA hP hD hS hl)
theorem so_ishr {x y : Int32} (hd : decode M.2.1 pc = .ok (.ishr, 1)) (k : sw_W E G M d (pc + 1) L (.int (x >>> (y &&& 31)) :: st) σ Q) : sw_W E G M d pc L (.int y :: .int x :: st) σ Q :=
  fun p e s m args below meth c C A H locs ls hA hP hD hS hl => lv_ishr C.1 C.2.1 hd (k p e s m args below meth c C A H locs ls hA hP hD hS hl)
theorem so_idiv {x y : Int32} (hd : decode M.2.1 pc = .ok (.idiv, 1)) (hne : ¬ y = 0) (k : sw_W E G M d (pc + 1) L (.int (x / y) :: st) σ Q) : sw_W E G M d pc L (.int y :: .int x :: st) σ Q :=
  fun p e s m args below meth c C A H locs ls hA hP hD hS hl => lv_idiv C.1 C.2.1 hd hne (k p e s m args below meth c C A H locs ls hA hP hD hS hl)
theorem so_irem {x y : Int32} (hd : decode M.2.1 pc = .ok (.irem, 1)) (hne : ¬ y = 0) (k : sw_W E G M d (pc + 1) L (.int (x - x / y * y) :: st) σ Q) : sw_W E G M d pc L (.int y :: .int x :: st) σ Q :=
  fun p e s m args below meth c C A H locs ls hA hP hD hS hl => lv_irem C.1 C.2.1 hd hne (k p e s m args below meth c C A H locs ls hA hP hD hS hl)
theorem so_iushr {x y v : Int32} (hd : decode M.2.1 pc = .ok (.iushr, 1)) (hv : (x.toUInt32 >>> (y.toUInt32 &&& Int32.toUInt32 31)).toInt32 = v) (k : sw_W E G M d (pc + 1) L (.int v :: st) σ Q) : sw_W E G M d pc L (.int y :: .int x :: st) σ Q :=
  fun p e s m args below meth c C A H locs ls hA hP hD hS hl => lv_iushr C.1 C.2.1 hd hv (k p e s m args below meth c C A H locs ls hA hP hD hS hl)
theorem so_ladd {x y : Int64} (hd : decode M.2.1 pc = .ok (.ladd, 1)) (k : sw_W E G M d (pc + 1) L (.long (x + y) :: st) σ Q) : sw_W E G M d pc L (.long y :: .long x :: st) σ Q :=
  fun p e s m args below meth c C A H locs ls hA hP hD hS hl => lv_ladd C.1 C.2.1 hd (k p e s m args below meth c C A H locs ls hA hP hD hS hl)
theorem so_lsub {x y : Int64} (hd : decode M.2.1 pc = .ok (.lsub, 1)) (k : sw_W E G M d (pc + 1) L (.long (x - y) :: st) σ Q) : sw_W E G M d pc L (.long y :: .long x :: st) σ Q :=
  fun p e s m args below meth c C A H locs ls hA hP hD hS hl => lv_lsub C.1 C.2.1 hd (k p e s m args below meth c C A H locs ls hA hP hD hS hl)
theorem so_lmul {x y : Int64} (hd : decode M.2.1 pc = .ok (.lmul, 1)) (k : sw_W E G M d (pc + 1) L (.long (x * y) :: st) σ Q) : sw_W E G M d pc L (.long y :: .long x :: st) σ Q :=
  fun p e s m args below meth c C A H locs ls hA hP hD hS hl => lv_lmul C.1 C.2.1 hd (k p e s m args below meth c C A H locs ls hA hP hD hS hl)
theorem so_land {x y : Int64} (hd : decode M.2.1 pc = .ok (.land, 1)) (k : sw_W E G M d (pc + 1) L (.long (x &&& y) :: st) σ Q) : sw_W E G M d pc L (.long y :: .long x :: st) σ Q :=
  fun p e s m args below meth c C A H locs ls hA hP hD hS hl => lv_land C.1 C.2.1 hd (k p e s m args below meth c C A H locs ls hA hP hD hS hl)
theorem so_ldiv {x y : Int64} (hd : decode M.2.1 pc = .ok (.ldiv, 1)) (hne : ¬ y = 0) (k : sw_W E G M d (pc + 1) L (.long (x / y) :: st) σ Q) : sw_W E G M d pc L (.long y :: .long x :: st) σ Q :=
  fun p e s m args below meth c C A H locs ls hA hP hD hS hl => lv_ldiv C.1 C.2.1 hd hne (k p e s m args below meth c C A H locs ls hA hP hD hS hl)
theorem so_lrem {x y : Int64} (hd : decode M.2.1 pc = .ok (.lrem, 1)) (hne : ¬ y = 0) (k : sw_W E G M d (pc + 1) L (.long (x - x / y * y) :: st) σ Q) : sw_W E G M d pc L (.long y :: .long x :: st) σ Q :=
  fun p e s m args below meth c C A H locs ls hA hP hD hS hl => lv_lrem C.1 C.2.1 hd hne (k p e s m args below meth c C A H locs ls hA hP hD hS hl)
theorem so_lcmp {x y : Int64} (hd : decode M.2.1 pc = .ok (.lcmp, 1)) (k : sw_W E G M d (pc + 1) L (.int (lg_cmp x y) :: st) σ Q) : sw_W E G M d pc L (.long y :: .long x :: st) σ Q :=
  fun p e s m args below meth c C A H locs ls hA hP hD hS hl => W.lcmp C.1 C.2.1 hd (k p e s m args below meth c C A H locs ls hA hP hD hS hl)
theorem so_i2l {x : Int32} {v : Int64} (hd : decode M.2.1 pc = .ok (.i2l, 1)) (hv : x.toInt64 = v) (k : sw_W E G M d (pc + 1) L (.long v :: st) σ Q) : sw_W E G M d pc L (.int x :: st) σ Q :=
  fun p e s m args below meth c C A H locs ls hA hP hD hS hl => lv_i2l C.1 C.2.1 hd hv (k p e s m args below meth c C A H locs ls hA hP hD hS hl)
theorem so_l2i {x : Int64} {v : Int32} (hd : decode M.2.1 pc = .ok (.l2i, 1)) (hv : x.toInt32 = v) (k : sw_W E G M d (pc + 1) L (.int v :: st) σ Q) : sw_W E G M d pc L (.long x :: st) σ Q :=
  fun p e s m args below meth c C A H locs ls hA hP hD hS hl => lv_l2i C.1 C.2.1 hd hv (k p e s m args below meth c C A H locs ls hA hP hD hS hl)
theorem so_i2b {x v : Int32} (hd : decode M.2.1 pc = .ok (.i2b, 1)) (hv : x.toInt8.toInt32 = v) (k : sw_W E G M d (pc + 1) L (.int v :: st) σ Q) : sw_W E G M d pc L (.int x :: st) σ Q :=
  fun p e s m args below meth c C A H locs ls hA hP hD hS hl => lv_i2b C.1 C.2.1 hd hv (k p e s m args below meth c C A H locs ls hA hP hD hS hl)
theorem so_i2c {x v : Int32} (hd : decode M.2.1 pc = .ok (.i2c, 1)) (hv : (x.toUInt32 % 65536).toInt32 = v) (k : sw_W E G M d (pc + 1) L (.int v :: st) σ Q) : sw_W E G M d pc L (.int x :: st) σ Q :=
  fun p e s m args below meth c C A H locs ls hA hP hD hS hl => lv_i2c C.1 C.2.1 hd hv (k p e s m args below meth c C A H locs ls hA hP hD hS hl)
theorem so_dup {v : Value} (hd : decode M.2.1 pc = .ok (.dup, 1)) (h1 : v.category = 1) (k : sw_W E G M d (pc + 1) L (v :: v :: st) σ Q) : sw_W E G M d pc L (v :: st) σ Q :=
  fun p e s m args below meth c C A H locs ls hA hP hD hS hl => lv_dup C.1 C.2.1 hd ((sw_cv_cat _ _).trans h1) (k p e s m args below meth c C A H locs ls hA hP hD hS hl)
theorem so_pop {v : Value} (hd : decode M.2.1 pc = .ok (.pop, 1)) (h1 : v.category = 1) (k : sw_W E G M d (pc + 1) L (st) σ Q) : sw_W E G M d pc L (v :: st) σ Q :=
  fun p e s m args below meth c C A H locs ls hA hP hD hS hl => lv_pop C.1 C.2.1 hd ((sw_cv_cat _ _).trans h1) (k p e s m args below meth c C A H locs ls hA hP hD hS hl)
theorem so_dup_x1 {v w : Value} (hd : decode M.2.1 pc = .ok (.dup_x1, 1)) (h1 : v.category = 1) (h2 : w.category = 1) (k : sw_W E G M d (pc + 1) L (v :: w :: v :: st) σ Q) : sw_W E G M d pc L (v :: w :: st) σ Q :=
  fun p e s m args below meth c C A H locs ls hA hP hD hS hl => lv_dup_x1 C.1 C.2.1 hd ((sw_cv_cat _ _).trans h1) ((sw_cv_cat _ _).trans h2) (k p e s m args below meth c C A H locs ls hA hP hD hS hl)
theorem so_dup2_11 {v w : Value} (hd : decode M.2.1 pc = .ok (.dup2, 1)) (h1 : v.category = 1) (h2 : w.category = 1) (k : sw_W E G M d (pc + 1) L (v :: w :: v :: w :: st) σ Q) : sw_W E G M d pc L (v :: w :: st) σ Q :=
  fun p e s m args below meth c C A H locs ls hA hP hD hS hl => lv_dup2_11 C.1 C.2.1 hd ((sw_cv_cat _ _).trans h1) ((sw_cv_cat _ _).trans h2) (k p e s m args below meth c C A H locs ls hA hP hD hS hl)
theorem so_dup2_2 {v : Value} (hd : decode M.2.1 pc = .ok (.dup2, 1)) (h1 : v.category = 2) (k : sw_W E G M d (pc + 1) L (v :: v :: st) σ Q) : sw_W E G M d pc L (v :: st) σ Q :=
  fun p e s m args below meth c C A H locs ls hA hP hD hS hl => lv_dup2_2 C.1 C.2.1 hd ((sw_cv_cat _ _).trans h1) (k p e s m args below meth c C A H locs ls hA hP hD hS hl)
theorem so_iload {x : Nat} {v : Int32} (hd : decode M.2.1 pc = .ok (.iload x, 2)) (hv : sw_lk L x = some (.int v)) (k : sw_W E G M d (pc + 2) L (.int v :: st) σ Q) : sw_W E G M d pc L st σ Q :=
  fun p e s m args below meth c C A H locs ls hA hP hD hS hl => lv_iload C.1 C.2.1 hd (sw_lk_has hv hl) (k p e s m args below meth c C A H locs ls hA hP hD hS hl)
theorem so_iload_n {n : Fin 4} {v : Int32} (hd : decode M.2.1 pc = .ok (.iload_n n, 1)) (hv : sw_lk L n = some (.int v)) (k : sw_W E G M d (pc + 1) L (.int v :: st) σ Q) : sw_W E G M d pc L st σ Q :=
  fun p e s m args below meth c C A H locs ls hA hP hD hS hl => lv_iload_n C.1 C.2.1 hd rfl (sw_lk_has hv hl) (k p e s m args below meth c C A H locs ls hA hP hD hS hl)
theorem so_lload {x : Nat} {v : Int64} (hd : decode M.2.1 pc = .ok (.lload x, 2)) (hv : sw_lk L x = some (.long v)) (k : sw_W E G M d (pc + 2) L (.long v :: st) σ Q) : sw_W E G M d pc L st σ Q :=
  fun p e s m args below meth c C A H locs ls hA hP hD hS hl => lv_lload C.1 C.2.1 hd (sw_lk_has hv hl) (k p e s m args below meth c C A H locs ls hA hP hD hS hl)
theorem so_lload_n {n : Fin 4} {v : Int64} (hd : decode M.2.1 pc = .ok (.lload_n n, 1)) (hv : sw_lk L n = some (.long v)) (k : sw_W E G M d (pc + 1) L (.long v :: st) σ Q) : sw_W E G M d pc L st σ Q :=
  fun p e s m args below meth c C A H locs ls hA hP hD hS hl => lv_lload_n C.1 C.2.1 hd rfl (sw_lk_has hv hl) (k p e s m args below meth c C A H locs ls hA hP hD hS hl)
theorem so_aload {x : Nat} {v : Nat} (hd : decode M.2.1 pc = .ok (.aload x, 2)) (hv : sw_lk L x = some (.ref v)) (k : sw_W E G M d (pc + 2) L (.ref v :: st) σ Q) : sw_W E G M d pc L st σ Q :=
  fun p e s m args below meth c C A H locs ls hA hP hD hS hl => lv_aload C.1 C.2.1 hd (sw_lk_has hv hl) (k p e s m args below meth c C A H locs ls hA hP hD hS hl)
theorem so_aload_n {n : Fin 4} {v : Nat} (hd : decode M.2.1 pc = .ok (.aload_n n, 1)) (hv : sw_lk L n = some (.ref v)) (k : sw_W E G M d (pc + 1) L (.ref v :: st) σ Q) : sw_W E G M d pc L st σ Q :=
  fun p e s m args below meth c C A H locs ls hA hP hD hS hl => lv_aload_n C.1 C.2.1 hd rfl (sw_lk_has hv hl) (k p e s m args below meth c C A H locs ls hA hP hD hS hl)
theorem so_istore {x : Nat} {v : Int32} (hd : decode M.2.1 pc = .ok (.istore x, 2)) (hn : x < M.2.2.1) (k : sw_W E G M d (pc + 2) (sw_s1 L x (.int v)) st σ Q) : sw_W E G M d pc L (.int v :: st) σ Q :=
  fun p e s m args below meth c C A H locs ls hA hP hD hS hl => lv_istore C.1 C.2.1 hd hl hn (sw_s1_map E.2.2.1 L x (.int v)) (fun ls hl => k p e s m args below meth c C A H locs ls hA hP hD hS hl)
theorem so_istore_n {n : Fin 4} {v : Int32} (hd : decode M.2.1 pc = .ok (.istore_n n, 1)) (hn : (n : Nat) < M.2.2.1) (k : sw_W E G M d (pc + 1) (sw_s1 L n (.int v)) st σ Q) : sw_W E G M d pc L (.int v :: st) σ Q :=
  fun p e s m args below meth c C A H locs ls hA hP hD hS hl => lv_istore_n C.1 C.2.1 hd rfl hl hn (sw_s1_map E.2.2.1 L n (.int v)) (fun ls hl => k p e s m args below meth c C A H locs ls hA hP hD hS hl)
theorem so_lstore {x : Nat} {v : Int64} (hd : decode M.2.1 pc = .ok (.lstore x, 2)) (hn : x + 1 < M.2.2.1) (k : sw_W E G M d (pc + 2) (sw_s2 L x (.long v)) st σ Q) : sw_W E G M d pc L (.long v :: st) σ Q :=
  fun p e s m args below meth c C A H locs ls hA hP hD hS hl => lv_lstore C.1 C.2.1 hd hl hn (sw_s2_map E.2.2.1 L x (.long v)) (fun ls hl => k p e s m args below meth c C A H locs ls hA hP hD hS hl)
theorem so_lstore_n {n : Fin 4} {v : Int64} (hd : decode M.2.1 pc = .ok (.lstore_n n, 1)) (hn : (n : Nat) + 1 < M.2.2.1) (k : sw_W E G M d (pc + 1) (sw_s2 L n (.long v)) st σ Q) : sw_W E G M d pc L (.long v :: st) σ Q :=
  fun p e s m args below meth c C A H locs ls hA hP hD hS hl => lv_lstore_n C.1 C.2.1 hd rfl hl hn (sw_s2_map E.2.2.1 L n (.long v)) (fun ls hl => k p e s m args below meth c C A H locs ls hA hP hD hS hl)
theorem so_astore {x : Nat} {v : Nat} (hd : decode M.2.1 pc = .ok (.astore x, 2)) (hn : x < M.2.2.1) (k : sw_W E G M d (pc + 2) (sw_s1 L x (.ref v)) st σ Q) : sw_W E G M d pc L (.ref v :: st) σ Q :=
  fun p e s m args below meth c C A H locs ls hA hP hD hS hl => lv_astore C.1 C.2.1 hd hl hn (sw_s1_map E.2.2.1 L x (.ref v)) (fun ls hl => k p e s m args below meth c C A H locs ls hA hP hD hS hl)
theorem so_astore_n {n : Fin 4} {v : Nat} (hd : decode M.2.1 pc = .ok (.astore_n n, 1)) (hn : (n : Nat) < M.2.2.1) (k : sw_W E G M d (pc + 1) (sw_s1 L n (.ref v)) st σ Q) : sw_W E G M d pc L (.ref v :: st) σ Q :=
  fun p e s m args below meth c C A H locs ls hA hP hD hS hl => lv_astore_n C.1 C.2.1 hd rfl hl hn (sw_s1_map E.2.2.1 L n (.ref v)) (fun ls hl => k p e s m args below meth c C A H locs ls hA hP hD hS hl)
theorem sw_has_add {L : sw_L} {x n : Nat} {v : Value} {ls : Array Slot} {a : Nat → Nat} (h : sw_lk L x = some v) (hl : lv_has ls n (L.map fun q => (q.1, sw_cv a q.2))) : ∃ j : Nat, (L.map fun q => (q.1, sw_cv a q.2))[j]? = some (x, sw_cv a v) :=
  List.getElem?_of_mem (List.mem_map.mpr ⟨(x, v), sw_lk_in h, rfl⟩)
theorem so_iinc {x : Nat} {n : Int} {v w : Int32} (hd : decode M.2.1 pc = .ok (.iinc x n, 3)) (hv : sw_lk L x = some (.int v)) (hw : v + Int32.ofInt n = w) (hn : x < M.2.2.1) (k : sw_W E G M d (pc + 3) (sw_s1 L x (.int w)) st σ Q) : sw_W E G M d pc L st σ Q := by
  intro p e s m args below meth c C A H locs ls hA hP hD hS hl
  obtain ⟨j, hj⟩ := sw_has_add hv hl
  exact lv_iinc C.1 C.2.1 hd hl hj hw hn (sw_s1_map E.2.2.1 L x (.int w)) (fun ls hl => k p e s m args below meth c C A H locs ls hA hP hD hS hl)
theorem so_goto {off : Int} {tgt : Nat} (hd : decode M.2.1 pc = .ok (.goto off, 3)) (ht : (pc : Int) + off = (tgt : Int)) (k : sw_W E G M d tgt L st σ Q) : sw_W E G M d pc L st σ Q :=
  fun p e s m args below meth c C A H locs ls hA hP hD hS hl => lv_goto C.1 C.2.1 hd ht (k p e s m args below meth c C A H locs ls hA hP hD hS hl)
theorem so_icmp_eq {x y : Int32} {off : Int} {tgt : Nat} (hd : decode M.2.1 pc = .ok (.if_icmp .eq off, 3)) (ht : (pc : Int) + off = (tgt : Int)) (kt : x = y → sw_W E G M d tgt L st σ Q) (kf : ¬ x = y → sw_W E G M d (pc + 3) L st σ Q) : sw_W E G M d pc L (.int y :: .int x :: st) σ Q :=
  fun p e s m args below meth c C A H locs ls hA hP hD hS hl => lv_icmp_eq C.1 C.2.1 hd ht (fun h => kt h p e s m args below meth c C A H locs ls hA hP hD hS hl) (fun h => kf h p e s m args below meth c C A H locs ls hA hP hD hS hl)
theorem so_if_eq {x : Int32} {off : Int} {tgt : Nat} (hd : decode M.2.1 pc = .ok (.ifCond .eq off, 3)) (ht : (pc : Int) + off = (tgt : Int)) (kt : x = 0 → sw_W E G M d tgt L st σ Q) (kf : ¬ x = 0 → sw_W E G M d (pc + 3) L st σ Q) : sw_W E G M d pc L (.int x :: st) σ Q :=
  fun p e s m args below meth c C A H locs ls hA hP hD hS hl => lv_if_eq C.1 C.2.1 hd ht (fun h => kt h p e s m args below meth c C A H locs ls hA hP hD hS hl) (fun h => kf h p e s m args below meth c C A H locs ls hA hP hD hS hl)
theorem so_icmp_ne {x y : Int32} {off : Int} {tgt : Nat} (hd : decode M.2.1 pc = .ok (.if_icmp .ne off, 3)) (ht : (pc : Int) + off = (tgt : Int)) (kt : ¬ x = y → sw_W E G M d tgt L st σ Q) (kf : x = y → sw_W E G M d (pc + 3) L st σ Q) : sw_W E G M d pc L (.int y :: .int x :: st) σ Q :=
  fun p e s m args below meth c C A H locs ls hA hP hD hS hl => lv_icmp_ne C.1 C.2.1 hd ht (fun h => kt h p e s m args below meth c C A H locs ls hA hP hD hS hl) (fun h => kf h p e s m args below meth c C A H locs ls hA hP hD hS hl)
theorem so_if_ne {x : Int32} {off : Int} {tgt : Nat} (hd : decode M.2.1 pc = .ok (.ifCond .ne off, 3)) (ht : (pc : Int) + off = (tgt : Int)) (kt : ¬ x = 0 → sw_W E G M d tgt L st σ Q) (kf : x = 0 → sw_W E G M d (pc + 3) L st σ Q) : sw_W E G M d pc L (.int x :: st) σ Q :=
  fun p e s m args below meth c C A H locs ls hA hP hD hS hl => lv_if_ne C.1 C.2.1 hd ht (fun h => kt h p e s m args below meth c C A H locs ls hA hP hD hS hl) (fun h => kf h p e s m args below meth c C A H locs ls hA hP hD hS hl)
theorem so_icmp_lt {x y : Int32} {off : Int} {tgt : Nat} (hd : decode M.2.1 pc = .ok (.if_icmp .lt off, 3)) (ht : (pc : Int) + off = (tgt : Int)) (kt : x < y → sw_W E G M d tgt L st σ Q) (kf : ¬ x < y → sw_W E G M d (pc + 3) L st σ Q) : sw_W E G M d pc L (.int y :: .int x :: st) σ Q :=
  fun p e s m args below meth c C A H locs ls hA hP hD hS hl => lv_icmp_lt C.1 C.2.1 hd ht (fun h => kt h p e s m args below meth c C A H locs ls hA hP hD hS hl) (fun h => kf h p e s m args below meth c C A H locs ls hA hP hD hS hl)
theorem so_if_lt {x : Int32} {off : Int} {tgt : Nat} (hd : decode M.2.1 pc = .ok (.ifCond .lt off, 3)) (ht : (pc : Int) + off = (tgt : Int)) (kt : x < 0 → sw_W E G M d tgt L st σ Q) (kf : ¬ x < 0 → sw_W E G M d (pc + 3) L st σ Q) : sw_W E G M d pc L (.int x :: st) σ Q :=
  fun p e s m args below meth c C A H locs ls hA hP hD hS hl => lv_if_lt C.1 C.2.1 hd ht (fun h => kt h p e s m args below meth c C A H locs ls hA hP hD hS hl) (fun h => kf h p e s m args below meth c C A H locs ls hA hP hD hS hl)
theorem so_icmp_ge {x y : Int32} {off : Int} {tgt : Nat} (hd : decode M.2.1 pc = .ok (.if_icmp .ge off, 3)) (ht : (pc : Int) + off = (tgt : Int)) (kt : y ≤ x → sw_W E G M d tgt L st σ Q) (kf : ¬ y ≤ x → sw_W E G M d (pc + 3) L st σ Q) : sw_W E G M d pc L (.int y :: .int x :: st) σ Q :=
  fun p e s m args below meth c C A H locs ls hA hP hD hS hl => lv_icmp_ge C.1 C.2.1 hd ht (fun h => kt h p e s m args below meth c C A H locs ls hA hP hD hS hl) (fun h => kf h p e s m args below meth c C A H locs ls hA hP hD hS hl)
theorem so_if_ge {x : Int32} {off : Int} {tgt : Nat} (hd : decode M.2.1 pc = .ok (.ifCond .ge off, 3)) (ht : (pc : Int) + off = (tgt : Int)) (kt : 0 ≤ x → sw_W E G M d tgt L st σ Q) (kf : ¬ 0 ≤ x → sw_W E G M d (pc + 3) L st σ Q) : sw_W E G M d pc L (.int x :: st) σ Q :=
  fun p e s m args below meth c C A H locs ls hA hP hD hS hl => lv_if_ge C.1 C.2.1 hd ht (fun h => kt h p e s m args below meth c C A H locs ls hA hP hD hS hl) (fun h => kf h p e s m args below meth c C A H locs ls hA hP hD hS hl)
theorem so_icmp_gt {x y : Int32} {off : Int} {tgt : Nat} (hd : decode M.2.1 pc = .ok (.if_icmp .gt off, 3)) (ht : (pc : Int) + off = (tgt : Int)) (kt : y < x → sw_W E G M d tgt L st σ Q) (kf : ¬ y < x → sw_W E G M d (pc + 3) L st σ Q) : sw_W E G M d pc L (.int y :: .int x :: st) σ Q :=
  fun p e s m args below meth c C A H locs ls hA hP hD hS hl => lv_icmp_gt C.1 C.2.1 hd ht (fun h => kt h p e s m args below meth c C A H locs ls hA hP hD hS hl) (fun h => kf h p e s m args below meth c C A H locs ls hA hP hD hS hl)
theorem so_if_gt {x : Int32} {off : Int} {tgt : Nat} (hd : decode M.2.1 pc = .ok (.ifCond .gt off, 3)) (ht : (pc : Int) + off = (tgt : Int)) (kt : 0 < x → sw_W E G M d tgt L st σ Q) (kf : ¬ 0 < x → sw_W E G M d (pc + 3) L st σ Q) : sw_W E G M d pc L (.int x :: st) σ Q :=
  fun p e s m args below meth c C A H locs ls hA hP hD hS hl => lv_if_gt C.1 C.2.1 hd ht (fun h => kt h p e s m args below meth c C A H locs ls hA hP hD hS hl) (fun h => kf h p e s m args below meth c C A H locs ls hA hP hD hS hl)
theorem so_icmp_le {x y : Int32} {off : Int} {tgt : Nat} (hd : decode M.2.1 pc = .ok (.if_icmp .le off, 3)) (ht : (pc : Int) + off = (tgt : Int)) (kt : x ≤ y → sw_W E G M d tgt L st σ Q) (kf : ¬ x ≤ y → sw_W E G M d (pc + 3) L st σ Q) : sw_W E G M d pc L (.int y :: .int x :: st) σ Q :=
  fun p e s m args below meth c C A H locs ls hA hP hD hS hl => lv_icmp_le C.1 C.2.1 hd ht (fun h => kt h p e s m args below meth c C A H locs ls hA hP hD hS hl) (fun h => kf h p e s m args below meth c C A H locs ls hA hP hD hS hl)
theorem so_if_le {x : Int32} {off : Int} {tgt : Nat} (hd : decode M.2.1 pc = .ok (.ifCond .le off, 3)) (ht : (pc : Int) + off = (tgt : Int)) (kt : x ≤ 0 → sw_W E G M d tgt L st σ Q) (kf : ¬ x ≤ 0 → sw_W E G M d (pc + 3) L st σ Q) : sw_W E G M d pc L (.int x :: st) σ Q :=
  fun p e s m args below meth c C A H locs ls hA hP hD hS hl => lv_if_le C.1 C.2.1 hd ht (fun h => kt h p e s m args below meth c C A H locs ls hA hP hD hS hl) (fun h => kf h p e s m args below meth c C A H locs ls hA hP hD hS hl)
theorem so_lookup {dflt : Int} {ps : Array (Int × Int)} {len : Nat} {x : Int32} {off : Int} {tgt : Nat} (hd : decode M.2.1 pc = .ok (.lookupswitch dflt ps, len)) (hp : (ps.toList.zip (ps.toList.drop 1)).all (fun (a, next) => a.1 < next.1) = true) (ho : Op.lookupswitch.offset ps.toList dflt x.toInt = off) (ht : (pc : Int) + off = (tgt : Int)) (k : sw_W E G M d tgt L st σ Q) : sw_W E G M d pc L (.int x :: st) σ Q :=
  fun p e s m args below meth c C A H locs ls hA hP hD hS hl => lv_lookup C.1 C.2.1 hd hp ho ht (k p e s m args below meth c C A H locs ls hA hP hD hS hl)
theorem so_tableOut {dflt lo hi : Int} {offs : Array Int} {len : Nat} {x : Int32} {tgt : Nat} (hd : decode M.2.1 pc = .ok (.tableswitch dflt lo hi offs, len)) (h : x.toInt < lo ∨ hi < x.toInt) (ht : (pc : Int) + dflt = (tgt : Int)) (k : sw_W E G M d tgt L st σ Q) : sw_W E G M d pc L (.int x :: st) σ Q :=
  fun p e s m args below meth c C A H locs ls hA hP hD hS hl => lv_tableOut C.1 C.2.1 hd h ht (k p e s m args below meth c C A H locs ls hA hP hD hS hl)
theorem so_tableIn {dflt lo hi : Int} {offs : Array Int} {len : Nat} {x : Int32} {off : Int} {tgt : Nat} (hd : decode M.2.1 pc = .ok (.tableswitch dflt lo hi offs, len)) (h1 : ¬ x.toInt < lo) (h2 : ¬ hi < x.toInt) (ho : offs[(x.toInt - lo).toNat]? = some off) (ht : (pc : Int) + off = (tgt : Int)) (k : sw_W E G M d tgt L st σ Q) : sw_W E G M d pc L (.int x :: st) σ Q :=
  fun p e s m args below meth c C A H locs ls hA hP hD hS hl => lv_tableIn C.1 C.2.1 hd h1 h2 ho ht (k p e s m args below meth c C A H locs ls hA hP hD hS hl)
/-- constants of the pool -/
def sw_ciL (own idx : Nat) : Option Int32 := (sw_ci.find? fun q => q.1 == own && q.2.1 == idx).map fun q => q.2.2.1
def sw_clL (own idx : Nat) : Option Int64 := (sw_cl.find? fun q => q.1 == own && q.2.1 == idx).map fun q => q.2.2.1
theorem sw_ci_in {own idx : Nat} {v : Int32} (h : sw_ciL own idx = some v) : Cond.constant (sw_nm own) idx v ∈ sw_T := by
  unfold sw_ciL at h
  obtain ⟨q, hq, rfl⟩ := Option.map_eq_some_iff.mp h
  have h1 := List.mem_of_find?_eq_some hq
  have h2 := List.find?_some hq
  have h3 := List.all_eq_true.mp sw_ci_ok q h1
  simp only [Bool.and_eq_true, decide_eq_true_eq, beq_iff_eq] at h2 h3
  rw [← h2.1, ← h2.2]
  exact sw_T_of (List.mem_of_getElem? h3.1) h3.2
theorem sw_cl_in {own idx : Nat} {v : Int64} (h : sw_clL own idx = some v) : Cond.constantLong (sw_nm own) idx v ∈ sw_T := by
  unfold sw_clL at h
  obtain ⟨q, hq, rfl⟩ := Option.map_eq_some_iff.mp h
  have h1 := List.mem_of_find?_eq_some hq
  have h2 := List.find?_some hq
  have h3 := List.all_eq_true.mp sw_cl_ok q h1
  simp only [Bool.and_eq_true, decide_eq_true_eq, beq_iff_eq] at h2 h3
  rw [← h2.1, ← h2.2]
  exact sw_T_of (List.mem_of_getElem? h3.1) h3.2
theorem so_ldc {idx : Nat} {v : Int32} (hd : decode M.2.1 pc = .ok (.ldc idx, 2)) (hv : sw_ciL M.2.2.2.2 idx = some v) (k : sw_W E G M d (pc + 2) L (.int v :: st) σ Q) : sw_W E G M d pc L st σ Q :=
  fun p e s m args below meth c C A H locs ls hA hP hD hS hl => lv_ldc C.1 C.2.1 C.2.2.2.2.1 (C.2.2.2.2.2.1 _ (sw_ci_in hv)) hd (k p e s m args below meth c C A H locs ls hA hP hD hS hl)
theorem so_ldcw {idx : Nat} {v : Int32} (hd : decode M.2.1 pc = .ok (.ldc_w idx, 3)) (hv : sw_ciL M.2.2.2.2 idx = some v) (k : sw_W E G M d (pc + 3) L (.int v :: st) σ Q) : sw_W E G M d pc L st σ Q :=
  fun p e s m args below meth c C A H locs ls hA hP hD hS hl => lv_ldcw C.1 C.2.1 C.2.2.2.2.1 (C.2.2.2.2.2.1 _ (sw_ci_in hv)) hd (k p e s m args below meth c C A H locs ls hA hP hD hS hl)
theorem so_ldc2 {idx : Nat} {v : Int64} (hd : decode M.2.1 pc = .ok (.ldc2_w idx, 3)) (hv : sw_clL M.2.2.2.2 idx = some v) (k : sw_W E G M d (pc + 3) L (.long v :: st) σ Q) : sw_W E G M d pc L st σ Q :=
  fun p e s m args below meth c C A H locs ls hA hP hD hS hl => lv_ldc2 C.1 C.2.1 C.2.2.2.2.1 (C.2.2.2.2.2.1 _ (sw_cl_in hv)) hd (k p e s m args below meth c C A H locs ls hA hP hD hS hl)
/-- fields -/
def sw_fl (own idx : Nat) : Option (Nat × Nat) := (sw_ff.find? fun q => q.1 == own && q.2.1 == idx).map fun q => (q.2.2.1, q.2.2.2.1)
theorem sw_vw {c : Nat} {C : vw_C} (h : vwCl[c]? = some C) : c < 12 ∧ C.2.2 = sw_nf c ∧ (∀ w ∈ u_ws C.1 C.2.1 C.2.2, w ∈ sw_T) ∧ (∃ ty0 : Nat → FieldType, ∀ k, k < C.2.2 → parseFieldDescriptor (C.2.1 k).2.2.1 = some (ty0 k)) ∧ (∀ a, a < C.2.2 → ∀ b, b < C.2.2 → a ≠ b → (C.2.1 a).2.1 ≠ (C.2.1 b).2.1) := by
  match c, h with
  | 0, h => cases h; exact ⟨by decide, by decide +kernel, sw_in0, ⟨tyX0, tyX0_ok⟩, nmX0⟩
  | 1, h => cases h; exact ⟨by decide, by decide +kernel, sw_in1, ⟨tyX1, tyX1_ok⟩, nmX1⟩
  | 2, h => cases h; exact ⟨by decide, by decide +kernel, sw_in2, ⟨tyX2, tyX2_ok⟩, nmX2⟩
  | 3, h => cases h; exact ⟨by decide, by decide +kernel, sw_in3, ⟨tyX3, tyX3_ok⟩, nmX3⟩
  | 4, h => cases h; exact ⟨by decide, by decide +kernel, sw_in4, ⟨tyX4, tyX4_ok⟩, nmX4⟩
  | 5, h => cases h; exact ⟨by decide, by decide +kernel, sw_in5, ⟨tyX5, tyX5_ok⟩, nmX5⟩
  | 6, h => cases h; exact ⟨by decide, by decide +kernel, sw_in6, ⟨tyX6, tyX6_ok⟩, nmX6⟩
  | 7, h => cases h; exact ⟨by decide, by decide +kernel, sw_in7, ⟨tyX7, tyX7_ok⟩, nmX7⟩
  | 8, h => cases h; exact ⟨by decide, by decide +kernel, sw_in8, ⟨tyX8, tyX8_ok⟩, nmX8⟩
  | 9, h => cases h; exact ⟨by decide, by decide +kernel, sw_in9, ⟨tyX9, tyX9_ok⟩, nmX9⟩
  | 10, h => cases h; exact ⟨by decide, by decide +kernel, sw_in10, ⟨tyX10, tyX10_ok⟩, nmX10⟩
  | 11, h => cases h; exact ⟨by decide, by decide +kernel, sw_in11, ⟨tyX11, tyX11_ok⟩, nmX11⟩
  | n + 12, h => simp [vwCl] at h
theorem sw_fl_in {own idx c k : Nat} (h : sw_fl own idx = some (c, k)) : ∃ C : vw_C, vwCl[c]? = some C ∧ k < C.2.2 ∧ Cond.fieldLink (sw_nm own) idx (C.2.1 k).1 (C.2.1 k).2.1 (C.2.1 k).2.2.1 ∈ sw_T := by
  unfold sw_fl at h
  obtain ⟨q, hq, he⟩ := Option.map_eq_some_iff.mp h
  obtain ⟨rfl, rfl⟩ := Prod.mk.inj he
  have h1 := List.mem_of_find?_eq_some hq
  have h2 := List.find?_some hq
  have h3 := List.all_eq_true.mp sw_ff_ok q h1
  simp only [Bool.and_eq_true, decide_eq_true_eq, beq_iff_eq] at h2 h3
  obtain ⟨⟨g1, g2⟩, g3⟩ := h3
  cases hC : vwCl[q.2.2.1]? with
  | none =>
    rw [List.getD_eq_getElem?_getD, hC] at g3
    exact absurd g3 (Nat.not_lt_zero _)
  | some C =>
    rw [List.getD_eq_getElem?_getD, hC] at g3
    refine ⟨C, rfl, g3, ?_⟩
    have e : sw_ffW q = Cond.fieldLink (sw_nm own) idx (C.2.1 q.2.2.2.1).1 (C.2.1 q.2.2.2.1).2.1 (C.2.1 q.2.2.2.1).2.2.1 := by
      unfold sw_ffW
      rw [hC, h2.1, h2.2]
    rw [← e]
    exact sw_T_of (List.mem_of_getElem? g1) g2
theorem sw_isO_sp {o c : Nat} (h : sw_isO G o c = true) : o < G.1 ∧ sw_sh G o = .inl c := by
  unfold sw_isO at h
  simp only [Bool.and_eq_true, decide_eq_true_eq] at h
  refine ⟨h.1, ?_⟩
  cases hs : sw_sh G o with
  | inl c' => rw [hs] at h; rw [eq_of_beq h.2]
  | inr q => rw [hs] at h; exact absurd h.2 (by simp)
theorem sw_isA_sp {o t : Nat} (h : sw_isA G o t = true) : o < G.1 ∧ sw_sh G o = .inr (t, sw_ln G o) := by
  unfold sw_isA at h
  simp only [Bool.and_eq_true, decide_eq_true_eq] at h
  refine ⟨h.1, ?_⟩
  cases hs : sw_sh G o with
  | inl c' => rw [hs] at h; exact absurd h.2 (by simp)
  | inr q => rw [hs] at h; unfold sw_ln; rw [hs]; exact congrArg Sum.inr (Prod.ext (eq_of_beq h.2) rfl)
theorem sw_cell_o {o c : Nat} (h : sw_sh G o = .inl c) : sw_cell E G σ o = .inr (c, (List.range (sw_nf c)).map fun k => sw_cv E.2.2.1 (sw_fv σ c o k)) := by
  unfold sw_cell; rw [h]
theorem so_get {idx c k o : Nat} (hd : decode M.2.1 pc = .ok (.getfield idx, 3)) (hf : sw_fl M.2.2.2.2 idx = some (c, k)) (ho : sw_isO G o c = true) (kk : sw_W E G M d (pc + 3) L (sw_fv σ c o k :: st) σ Q) : sw_W E G M d pc L (.ref o :: st) σ Q := by
  intro p e s m args below meth cd C A H locs ls hA hP hD hS hl
  obtain ⟨V, hV, hk, hw⟩ := sw_fl_in hf
  obtain ⟨h1, h2, h3, -, -⟩ := sw_vw hV
  obtain ⟨g1, g2⟩ := sw_isO_sp ho
  have hc := sw_cell_o (E := E) (σ := σ) g2
  have hat := sw_w_at (E := E) (σ := σ) g1
  rw [hc] at hat
  have hkn : k < sw_nf c := h2 ▸ hk
  exact va_get C.1 C.2.1 C.2.2.2.2.2.1 h3 C.2.2.2.2.1 C.2.2.2.2.2.2.2 hP o hat hV k hk (C.2.2.2.2.2.1 _ hw) (fun _ h => h) (v := sw_cv E.2.2.1 (sw_fv σ c o k)) (by simp [hkn]) hd (kk p e s m args below meth cd C A H locs ls hA hP hD hS hl)
theorem sw_w_put {o c k : Nat} {v : Value} {σ' : sw_St} (hs : sw_sh G o = .inl c) (h1 : ∀ i, i ≠ o → σ'.1 i = σ.1 i ∧ σ'.2.1 i = σ.2.1 i ∧ σ'.2.2 i = σ.2.2 i) (h2 : ∀ j, j ≠ k → sw_fv σ' c o j = sw_fv σ c o j) (h3 : sw_cv E.2.2.1 (sw_fv σ' c o k) = v) :
    (sw_w E G σ).set o (E.2.2.1 o, .inr (c, ((List.range (sw_nf c)).map fun k => sw_cv E.2.2.1 (sw_fv σ c o k)).set k v)) = sw_w E G σ' := by
  have hc : sw_cell E G σ' o = .inr (c, ((List.range (sw_nf c)).map fun k => sw_cv E.2.2.1 (sw_fv σ c o k)).set k v) := by
    rw [sw_cell_o hs]
    congr 2
    apply List.ext_getElem?
    intro j
    by_cases hj : j = k
    · subst hj
      by_cases hl : j < sw_nf c
      · rw [List.getElem?_set_self (by simp [hl])]
        simp [hl, h3]
      · rw [List.getElem?_eq_none (by simp; omega), List.getElem?_eq_none (by simp; omega)]
    · rw [List.getElem?_set_ne (Ne.symm hj)]
      by_cases hl : j < sw_nf c
      · simp [hl, h2 j hj]
      · rw [List.getElem?_eq_none (by simp; omega), List.getElem?_eq_none (by simp; omega)]
  rw [← hc]
  refine sw_w_set fun i hi => ?_
  obtain ⟨e1, e2, e3⟩ := h1 i hi
  unfold sw_cell
  cases sw_sh G i with
  | inl c' =>
    have : ∀ k, sw_fv σ' c' i k = sw_fv σ c' i k := fun k => by unfold sw_fv; rw [e1, e2, e3]
    simp only [this]
  | inr q => simp only [e1, e2, e3]
theorem so_putI {idx c k o : Nat} {v : Int32} (hd : decode M.2.1 pc = .ok (.putfield idx, 3)) (hf : sw_fl M.2.2.2.2 idx = some (c, k)) (ho : sw_isO G o c = true) (hk0 : sw_kd c k = 0 ∨ (sw_kd c k = 1 ∧ (v = 0 ∨ v = 1))) (kk : sw_W E G M d (pc + 3) L st (sw_uI σ o k v) Q) : sw_W E G M d pc L (.int v :: .ref o :: st) σ Q := by
  intro p e s m args below meth cd C A H locs ls hA hP hD hS hl
  obtain ⟨V, hV, hk, hw⟩ := sw_fl_in hf
  obtain ⟨h1, h2, h3, ⟨ty0, h4⟩, h5⟩ := sw_vw hV
  obtain ⟨g1, g2⟩ := sw_isO_sp ho
  have hc := sw_cell_o (E := E) (σ := σ) g2
  have hat := sw_w_at (E := E) (σ := σ) g1
  rw [hc] at hat
  have hkn : k < sw_nf c := h2 ▸ hk
  have hfit := sw_fit_ok c h1 k hkn
  have hww : (sw_w E G σ).set o (E.2.2.1 o, .inr (c, ((List.range (sw_nf c)).map fun k => sw_cv E.2.2.1 (sw_fv σ c o k)).set k (.int v))) = sw_w E G (sw_uI σ o k v) := by
    refine sw_w_put g2 (fun i hi => ?_) (fun j hj => ?_) ?_
    · simp [sw_uI, hi]
    · unfold sw_fv
      simp [sw_uI, upd, hj]
    · unfold sw_fv
      rcases hk0 with h | ⟨h, -⟩ <;> simp [h, sw_uI, upd, sw_cv]
  have hx : ∃ ty, parseFieldDescriptor (V.2.1 k).2.2.1 = some ty ∧ narrow ty (.int v) = .int v ∧ fits ty (.int v) = true ∧ (V.2.1 k).2.2.2 = false := by
    unfold sw_fit at hfit
    rw [hV] at hfit
    rcases hk0 with h | ⟨h, hv⟩
    · simp only [h, Bool.and_eq_true, decide_eq_true_eq, Bool.not_eq_true'] at hfit
      exact ⟨_, hfit.1, rfl, rfl, hfit.2⟩
    · simp only [h, Bool.and_eq_true, decide_eq_true_eq, Bool.not_eq_true'] at hfit
      rcases hv with rfl | rfl <;> exact ⟨_, hfit.1, rfl, rfl, hfit.2⟩
  obtain ⟨ty, x1, x2, x3, x4⟩ := hx
  refine va_put C.1 C.2.1 C.2.2.2.2.2.1 h3 ty0 h4 h5 C.2.2.2.2.1 C.2.2.2.2.2.2.2 hP hD hS o hat hV k hk (C.2.2.2.2.2.1 _ hw) (fun _ h => h) x4 x1 x2 x3 (by simp [hkn]) hd (fun H1 locs1 hP1 hD1 hS1 => ?_)
  exact kk p e s m args below meth cd C A H1 locs1 ls hA (by rw [← hww]; exact hP1) (by rw [← hww]; exact hD1) hS1 hl
theorem so_putL {idx c k o : Nat} {v : Int64} (hd : decode M.2.1 pc = .ok (.putfield idx, 3)) (hf : sw_fl M.2.2.2.2 idx = some (c, k)) (ho : sw_isO G o c = true) (hk0 : sw_kd c k = 2) (kk : sw_W E G M d (pc + 3) L st (sw_uL σ o k v) Q) : sw_W E G M d pc L (.long v :: .ref o :: st) σ Q := by
  intro p e s m args below meth cd C A H locs ls hA hP hD hS hl
  obtain ⟨V, hV, hk, hw⟩ := sw_fl_in hf
  obtain ⟨h1, h2, h3, ⟨ty0, h4⟩, h5⟩ := sw_vw hV
  obtain ⟨g1, g2⟩ := sw_isO_sp ho
  have hc := sw_cell_o (E := E) (σ := σ) g2
  have hat := sw_w_at (E := E) (σ := σ) g1
  rw [hc] at hat
  have hkn : k < sw_nf c := h2 ▸ hk
  have hfit := sw_fit_ok c h1 k hkn
  have hww : (sw_w E G σ).set o (E.2.2.1 o, .inr (c, ((List.range (sw_nf c)).map fun k => sw_cv E.2.2.1 (sw_fv σ c o k)).set k (.long v))) = sw_w E G (sw_uL σ o k v) := by
    refine sw_w_put g2 (fun i hi => ?_) (fun j hj => ?_) ?_
    · simp [sw_uL, hi]
    · unfold sw_fv
      simp [sw_uL, vp_updL, hj]
    · unfold sw_fv
      simp [hk0, sw_uL, vp_updL, sw_cv]
  have hx : parseFieldDescriptor (V.2.1 k).2.2.1 = some .long ∧ (V.2.1 k).2.2.2 = false := by
    unfold sw_fit at hfit
    rw [hV] at hfit
    simp only [hk0, Bool.and_eq_true, decide_eq_true_eq, Bool.not_eq_true'] at hfit
    exact hfit
  refine va_put C.1 C.2.1 C.2.2.2.2.2.1 h3 ty0 h4 h5 C.2.2.2.2.1 C.2.2.2.2.2.2.2 hP hD hS o hat hV k hk (C.2.2.2.2.2.1 _ hw) (fun _ h => h) hx.2 hx.1 rfl rfl (by simp [hkn]) hd (fun H1 locs1 hP1 hD1 hS1 => ?_)
  exact kk p e s m args below meth cd C A H1 locs1 ls hA (by rw [← hww]; exact hP1) (by rw [← hww]; exact hD1) hS1 hl
theorem so_putR {idx c k o v : Nat} (hd : decode M.2.1 pc = .ok (.putfield idx, 3)) (hf : sw_fl M.2.2.2.2 idx = some (c, k)) (ho : sw_isO G o c = true) (hk0 : sw_kd c k = 3) (kk : sw_W E G M d (pc + 3) L st (sw_uR σ o k (some v)) Q) : sw_W E G M d pc L (.ref v :: .ref o :: st) σ Q := by
  intro p e s m args below meth cd C A H locs ls hA hP hD hS hl
  obtain ⟨V, hV, hk, hw⟩ := sw_fl_in hf
  obtain ⟨h1, h2, h3, ⟨ty0, h4⟩, h5⟩ := sw_vw hV
  obtain ⟨g1, g2⟩ := sw_isO_sp ho
  have hc := sw_cell_o (E := E) (σ := σ) g2
  have hat := sw_w_at (E := E) (σ := σ) g1
  rw [hc] at hat
  have hkn : k < sw_nf c := h2 ▸ hk
  have hfit := sw_fit_ok c h1 k hkn
  have hww : (sw_w E G σ).set o (E.2.2.1 o, .inr (c, ((List.range (sw_nf c)).map fun k => sw_cv E.2.2.1 (sw_fv σ c o k)).set k (.ref (E.2.2.1 v)))) = sw_w E G (sw_uR σ o k (some v)) := by
    refine sw_w_put g2 (fun i hi => ?_) (fun j hj => ?_) ?_
    · simp [sw_uR, hi]
    · unfold sw_fv
      simp [sw_uR, vf_upd, hj]
    · unfold sw_fv
      simp [hk0, sw_uR, vf_upd, sw_cv, va_rf]
  have hx : ∃ ty, parseFieldDescriptor (V.2.1 k).2.2.1 = some ty ∧ narrow ty (.ref (E.2.2.1 v)) = .ref (E.2.2.1 v) ∧ fits ty (.ref (E.2.2.1 v)) = true ∧ (V.2.1 k).2.2.2 = false := by
    unfold sw_fit at hfit
    rw [hV] at hfit
    simp only [hk0, Bool.and_eq_true, Bool.not_eq_true'] at hfit
    obtain ⟨f1, f2⟩ := hfit
    split at f2
    · next C' h => exact ⟨_, h, rfl, rfl, f1⟩
    · next C' h => exact ⟨_, h, rfl, rfl, f1⟩
    · cases f2
  obtain ⟨ty, x1, x2, x3, x4⟩ := hx
  refine va_put C.1 C.2.1 C.2.2.2.2.2.1 h3 ty0 h4 h5 C.2.2.2.2.1 C.2.2.2.2.2.2.2 hP hD hS o hat hV k hk (C.2.2.2.2.2.1 _ hw) (fun _ h => h) x4 x1 x2 x3 (by simp [hkn]) hd (fun H1 locs1 hP1 hD1 hS1 => ?_)
  exact kk p e s m args below meth cd C A H1 locs1 ls hA (by rw [← hww]; exact hP1) (by rw [← hww]; exact hD1) hS1 hl
/-- arrays -/
theorem sw_cell_a {o t : Nat} (h : sw_sh G o = .inr (t, sw_ln G o)) : sw_cell E G σ o = .inl (E.2.2.2 t, sw_ln G o, if t = 3 then .inr (.inl (σ.2.1 o)) else if t = 4 then .inr (.inr (.inr (.inr fun k => (σ.2.2 o k).map E.2.2.1))) else .inl (σ.1 o)) := by
  unfold sw_cell
  rw [h]
theorem sw_at_a {o t : Nat} (h : sw_isA G o t = true) : (sw_w E G σ)[o]? = some (E.2.2.1 o, .inl (E.2.2.2 t, sw_ln G o, if t = 3 then .inr (.inl (σ.2.1 o)) else if t = 4 then .inr (.inr (.inr (.inr fun k => (σ.2.2 o k).map E.2.2.1))) else .inl (σ.1 o))) := by
  obtain ⟨g1, g2⟩ := sw_isA_sp h
  rw [sw_w_at g1, sw_cell_a g2]
theorem sw_w_ast {o t : Nat} {σ' : sw_St} (h : sw_isA G o t = true) (h1 : ∀ i, i ≠ o → σ'.1 i = σ.1 i ∧ σ'.2.1 i = σ.2.1 i ∧ σ'.2.2 i = σ.2.2 i) :
    (sw_w E G σ).set o (E.2.2.1 o, .inl (E.2.2.2 t, sw_ln G o, if t = 3 then .inr (.inl (σ'.2.1 o)) else if t = 4 then .inr (.inr (.inr (.inr fun k => (σ'.2.2 o k).map E.2.2.1))) else .inl (σ'.1 o))) = sw_w E G σ' := by
  obtain ⟨g1, g2⟩ := sw_isA_sp h
  rw [← sw_cell_a (E := E) (σ := σ') g2]
  refine sw_w_set fun i hi => ?_
  obtain ⟨e1, e2, e3⟩ := h1 i hi
  unfold sw_cell
  cases sw_sh G i with
  | inl c' =>
    have : ∀ k, sw_fv σ' c' i k = sw_fv σ c' i k := fun k => by unfold sw_fv; rw [e1, e2, e3]
    simp only [this]
  | inr q => simp only [e1, e2, e3]
theorem so_iaload {o : Nat} {i : Int32} (hd : decode M.2.1 pc = .ok (.iaload, 1)) (ho : sw_isA G o 0 = true) (hi : vp_in i (sw_ln G o)) (k : sw_W E G M d (pc + 1) L (.int (σ.1 o i.toNatClampNeg) :: st) σ Q) : sw_W E G M d pc L (.int i :: .ref o :: st) σ Q :=
  fun p e s m args below meth c C A H locs ls hA hP hD hS hl => va_iald C.1 C.2.1 C.2.2.2.2.2.2.2 hP o 0 (sw_at_a ho) rfl hi hd (k p e s m args below meth c C A H locs ls hA hP hD hS hl)
theorem so_baload {o : Nat} {i : Int32} (hd : decode M.2.1 pc = .ok (.baload, 1)) (ho : sw_isA G o 1 = true) (hi : vp_in i (sw_ln G o)) (k : sw_W E G M d (pc + 1) L (.int (σ.1 o i.toNatClampNeg) :: st) σ Q) : sw_W E G M d pc L (.int i :: .ref o :: st) σ Q :=
  fun p e s m args below meth c C A H locs ls hA hP hD hS hl => va_bald C.1 C.2.1 C.2.2.2.2.2.2.2 hP o 1 (sw_at_a ho) rfl hi hd (k p e s m args below meth c C A H locs ls hA hP hD hS hl)
theorem so_caload {o : Nat} {i : Int32} (hd : decode M.2.1 pc = .ok (.caload, 1)) (ho : sw_isA G o 2 = true) (hi : vp_in i (sw_ln G o)) (k : sw_W E G M d (pc + 1) L (.int (σ.1 o i.toNatClampNeg) :: st) σ Q) : sw_W E G M d pc L (.int i :: .ref o :: st) σ Q :=
  fun p e s m args below meth c C A H locs ls hA hP hD hS hl => va_cald C.1 C.2.1 C.2.2.2.2.2.2.2 hP o 2 (sw_at_a ho) rfl hi hd (k p e s m args below meth c C A H locs ls hA hP hD hS hl)
theorem so_laload {o : Nat} {i : Int32} (hd : decode M.2.1 pc = .ok (.laload, 1)) (ho : sw_isA G o 3 = true) (hi : vp_in i (sw_ln G o)) (k : sw_W E G M d (pc + 1) L (.long (σ.2.1 o i.toNatClampNeg) :: st) σ Q) : sw_W E G M d pc L (.int i :: .ref o :: st) σ Q :=
  fun p e s m args below meth c C A H locs ls hA hP hD hS hl => va_lald C.1 C.2.1 C.2.2.2.2.2.2.2 hP o 3 (sw_at_a ho) rfl hi hd (k p e s m args below meth c C A H locs ls hA hP hD hS hl)
theorem so_aaload {o v : Nat} {i : Int32} (hd : decode M.2.1 pc = .ok (.aaload, 1)) (ho : sw_isA G o 4 = true) (hi : vp_in i (sw_ln G o)) (hv : σ.2.2 o i.toNatClampNeg = some v) (k : sw_W E G M d (pc + 1) L (.ref v :: st) σ Q) : sw_W E G M d pc L (.int i :: .ref o :: st) σ Q :=
  fun p e s m args below meth c C A H locs ls hA hP hD hS hl => va_aldq C.1 C.2.1 C.2.2.2.2.2.2.2 hP o 4 (sw_at_a ho) rfl hi hd (by
    have h := k p e s m args below meth c C A H locs ls hA hP hD hS hl
    rw [hv]
    exact h)
theorem so_alen {o t : Nat} {v : Int32} (hd : decode M.2.1 pc = .ok (.arraylength, 1)) (ht : t < 4) (ho : sw_isA G o t = true) (hv : Int32.ofNat (sw_ln G o) = v) (k : sw_W E G M d (pc + 1) L (.int v :: st) σ Q) : sw_W E G M d pc L (.ref o :: st) σ Q :=
  fun p e s m args below meth c C A H locs ls hA hP hD hS hl => va_alen C.1 C.2.1 C.2.2.2.2.2.2.2 hP o t (sw_at_a ho) (ty := if t = 0 then .int else if t = 1 then .byte else if t = 2 then .char else .long) (by
    rcases (show t = 0 ∨ t = 1 ∨ t = 2 ∨ t = 3 by omega) with rfl | rfl | rfl | rfl <;> rfl) hv hd (k p e s m args below meth c C A H locs ls hA hP hD hS hl)
theorem so_iastore {o : Nat} {i x : Int32} (hd : decode M.2.1 pc = .ok (.iastore, 1)) (ho : sw_isA G o 0 = true) (hi : vp_in i (sw_ln G o)) (k : sw_W E G M d (pc + 1) L st (sw_uI σ o i.toNatClampNeg x) Q) : sw_W E G M d pc L (.int x :: .int i :: .ref o :: st) σ Q := by
  intro p e s m args below meth c C A H locs ls hA hP hD hS hl
  refine va_iast C.1 C.2.1 C.2.2.2.2.2.2.2 hP hD hS o 0 (sw_at_a ho) rfl hi hd (fun H1 locs1 hP1 hD1 hS1 => ?_)
  have hw := sw_w_ast (E := E) (σ := σ) (σ' := sw_uI σ o i.toNatClampNeg x) ho (fun j hj => by simp [sw_uI, hj])
  have e1 : (sw_uI σ o i.toNatClampNeg x).1 o = upd (σ.1 o) i.toNatClampNeg x := by simp [sw_uI]
  rw [e1] at hw
  refine k p e s m args below meth c C A H1 locs1 ls hA ?_ ?_ hS1 hl
  · rw [← hw]; exact hP1
  · rw [← hw]; exact hD1
theorem so_bastore {o : Nat} {i x : Int32} (hd : decode M.2.1 pc = .ok (.bastore, 1)) (ho : sw_isA G o 1 = true) (hi : vp_in i (sw_ln G o)) (k : sw_W E G M d (pc + 1) L st (sw_uI σ o i.toNatClampNeg x.toInt8.toInt32) Q) : sw_W E G M d pc L (.int x :: .int i :: .ref o :: st) σ Q := by
  intro p e s m args below meth c C A H locs ls hA hP hD hS hl
  refine va_bast C.1 C.2.1 C.2.2.2.2.2.2.2 hP hD hS o 1 (sw_at_a ho) rfl hi hd (fun H1 locs1 hP1 hD1 hS1 => ?_)
  have hw := sw_w_ast (E := E) (σ := σ) (σ' := sw_uI σ o i.toNatClampNeg x.toInt8.toInt32) ho (fun j hj => by simp [sw_uI, hj])
  have e1 : (sw_uI σ o i.toNatClampNeg x.toInt8.toInt32).1 o = upd (σ.1 o) i.toNatClampNeg (vp_nar .byte x) := by simp [sw_uI, vp_nar_byte]
  rw [e1] at hw
  refine k p e s m args below meth c C A H1 locs1 ls hA ?_ ?_ hS1 hl
  · rw [← hw]; exact hP1
  · rw [← hw]; exact hD1
theorem so_lastore {o : Nat} {i : Int32} {x : Int64} (hd : decode M.2.1 pc = .ok (.lastore, 1)) (ho : sw_isA G o 3 = true) (hi : vp_in i (sw_ln G o)) (k : sw_W E G M d (pc + 1) L st (sw_uL σ o i.toNatClampNeg x) Q) : sw_W E G M d pc L (.long x :: .int i :: .ref o :: st) σ Q := by
  intro p e s m args below meth c C A H locs ls hA hP hD hS hl
  refine va_last C.1 C.2.1 C.2.2.2.2.2.2.2 hP hD hS o 3 (sw_at_a ho) rfl hi hd (fun H1 locs1 hP1 hD1 hS1 => ?_)
  have hw := sw_w_ast (E := E) (σ := σ) (σ' := sw_uL σ o i.toNatClampNeg x) ho (fun j hj => by simp [sw_uL, hj])
  have e1 : (sw_uL σ o i.toNatClampNeg x).2.1 o = vp_updL (σ.2.1 o) i.toNatClampNeg x := by simp [sw_uL]
  rw [e1] at hw
  refine k p e s m args below meth c C A H1 locs1 ls hA ?_ ?_ hS1 hl
  · rw [← hw]; exact hP1
  · rw [← hw]; exact hD1
/-- returns -/
theorem so_ireturn {v : Int32} {ty : FieldType} (hd : decode M.2.1 pc = .ok (.ireturn, 1)) (hr : M.2.2.2.1 = some ty) (hn : narrow ty (.int v) = .int v) (hq : Q (some (.int v)) σ) : sw_W E G M d pc L [.int v] σ Q :=
  fun p e s m args below meth c C A H locs ls hA hP hD hS hl => W.zret C.1 C.2.1 (C.2.2.2.1.trans hr) hn (fun t ht hW => ⟨⟨some (.int v), σ, rfl, hq, by rw [ht]; exact hP, va_K.moved hW.alike C.2.2.2.2.2.2.2, hD⟩, hS.F ht⟩) hS.2.2 hd C.2.2.2.2.2.2.1
theorem so_lreturn {v : Int64} (hd : decode M.2.1 pc = .ok (.lreturn, 1)) (hr : M.2.2.2.1 = some .long) (hq : Q (some (.long v)) σ) : sw_W E G M d pc L [.long v] σ Q :=
  fun p e s m args below meth c C A H locs ls hA hP hD hS hl => W.lret C.1 C.2.1 (C.2.2.2.1.trans hr) (fun t ht hW => ⟨⟨some (.long v), σ, rfl, hq, by rw [ht]; exact hP, va_K.moved hW.alike C.2.2.2.2.2.2.2, hD⟩, hS.F ht⟩) hS.2.2 hd C.2.2.2.2.2.2.1
theorem so_return (hd : decode M.2.1 pc = .ok (.return_, 1)) (hr : M.2.2.2.1 = none) (hq : Q none σ) : sw_W E G M d pc L [] σ Q :=
  fun p e s m args below meth c C A H locs ls hA hP hD hS hl => W.vret C.1 C.2.1 (C.2.2.2.1.trans hr) (fun t ht hW => ⟨⟨none, σ, rfl, hq, by rw [ht]; exact hP, va_K.moved hW.alike C.2.2.2.2.2.2.2, hD⟩, hS.F ht⟩) hS.2.2 hd C.2.2.2.2.2.2.1
end sw_rules

/-! Stretches of instructions as data: what they ask and where they lead is computed. -/
def sw_tg (pc : Nat) (off : Int) : Option Nat := if (pc : Int) + off = (((pc : Int) + off).toNat : Int) then some ((pc : Int) + off).toNat else none
def sw_cc : Jvm.ClassFile.Cond → Nat
  | .eq => 0 | .ne => 1 | .lt => 2 | .ge => 3 | .gt => 4 | .le => 5
/-- an instruction as a number and its numbers, and where the next one stands -/
def sw_tr (own nL pc : Nat) (i : Instr) (len : Nat) : Option (sw_I × Nat) := match i with
  | .iconst n => if len = 1 then some ((.iconst 0, 0, Int32.ofInt n, 0), pc + 1) else none
  | .bipush n => if len = 2 then some ((.iconst 0, 0, (Int8.ofInt n).toInt32, 0), pc + 2) else none
  | .sipush n => if len = 3 then some ((.iconst 0, 0, (Int16.ofInt n).toInt32, 0), pc + 3) else none
  | .ldc idx => if len = 2 then (sw_ciL own idx).map fun v => ((.iconst 0, 0, v, 0), pc + 2) else none
  | .ldc_w idx => if len = 3 then (sw_ciL own idx).map fun v => ((.iconst 0, 0, v, 0), pc + 3) else none
  | .ldc2_w idx => if len = 3 then (sw_clL own idx).map fun v => ((.lconst 0, 0, 0, v), pc + 3) else none
  | .lconst n => if len = 1 then some ((.lconst 0, 0, 0, Int64.ofNat (n : Nat)), pc + 1) else none
  | .iload x => if len = 2 then some ((.iload 0, x, 0, 0), pc + 2) else none
  | .iload_n x => if len = 1 then some ((.iload 0, (x : Nat), 0, 0), pc + 1) else none
  | .lload x => if len = 2 then some ((.lload 0, x, 0, 0), pc + 2) else none
  | .lload_n x => if len = 1 then some ((.lload 0, (x : Nat), 0, 0), pc + 1) else none
  | .aload x => if len = 2 then some ((.aload 0, x, 0, 0), pc + 2) else none
  | .aload_n x => if len = 1 then some ((.aload 0, (x : Nat), 0, 0), pc + 1) else none
  | .istore x => if len = 2 ∧ x < nL then some ((.istore 0, x, 0, 0), pc + 2) else none
  | .istore_n x => if len = 1 ∧ (x : Nat) < nL then some ((.istore 0, (x : Nat), 0, 0), pc + 1) else none
  | .lstore x => if len = 2 ∧ x + 1 < nL then some ((.lstore 0, x, 0, 0), pc + 2) else none
  | .lstore_n x => if len = 1 ∧ (x : Nat) + 1 < nL then some ((.lstore 0, (x : Nat), 0, 0), pc + 1) else none
  | .astore x => if len = 2 ∧ x < nL then some ((.astore 0, x, 0, 0), pc + 2) else none
  | .astore_n x => if len = 1 ∧ (x : Nat) < nL then some ((.astore 0, (x : Nat), 0, 0), pc + 1) else none
  | .iinc x n => if len = 3 ∧ x < nL then some ((.iinc 0 0, x, Int32.ofInt n, 0), pc + 3) else none
  | .getfield idx => if len = 3 then (sw_fl own idx).map fun q => ((.getfield 0, 1000 * q.1 + q.2, 0, 0), pc + 3) else none
  | .putfield idx => if len = 3 then (sw_fl own idx).map fun q => ((.putfield 0, 1000 * q.1 + q.2, 0, 0), pc + 3) else none
  | .iaload => if len = 1 then some ((.iaload, 0, 0, 0), pc + 1) else none
  | .baload => if len = 1 then some ((.baload, 0, 0, 0), pc + 1) else none
  | .caload => if len = 1 then some ((.caload, 0, 0, 0), pc + 1) else none
  | .laload => if len = 1 then some ((.laload, 0, 0, 0), pc + 1) else none
  | .aaload => if len = 1 then some ((.aaload, 0, 0, 0), pc + 1) else none
  | .iastore => if len = 1 then some ((.iastore, 0, 0, 0), pc + 1) else none
  | .bastore => if len = 1 then some ((.bastore, 0, 0, 0), pc + 1) else none
  | .lastore => if len = 1 then some ((.lastore, 0, 0, 0), pc + 1) else none
  | .arraylength => if len = 1 then some ((.arraylength, 0, 0, 0), pc + 1) else none
  | .iadd => if len = 1 then some ((.iadd, 0, 0, 0), pc + 1) else none
  | .isub => if len = 1 then some ((.isub, 0, 0, 0), pc + 1) else none
  | .imul => if len = 1 then some ((.imul, 0, 0, 0), pc + 1) else none
  | .iand => if len = 1 then some ((.iand, 0, 0, 0), pc + 1) else none
  | .ior => if len = 1 then some ((.ior, 0, 0, 0), pc + 1) else none
  | .ixor => if len = 1 then some ((.ixor, 0, 0, 0), pc + 1) else none
  | .ishl => if len = 1 then some ((.ishl, 0, 0, 0), pc + 1) else none
  | .ishr => if len = 1 then some ((.ishr, 0, 0, 0), pc + 1) else none
  | .idiv => if len = 1 then some ((.idiv, 0, 0, 0), pc + 1) else none
  | .irem => if len = 1 then some ((.irem, 0, 0, 0), pc + 1) else none
  | .iushr => if len = 1 then some ((.iushr, 0, 0, 0), pc + 1) else none
  | .ladd => if len = 1 then some ((.ladd, 0, 0, 0), pc + 1) else none
  | .lsub => if len = 1 then some ((.lsub, 0, 0, 0), pc + 1) else none
  | .lmul => if len = 1 then some ((.lmul, 0, 0, 0), pc + 1) else none
  | .land => if len = 1 then some ((.land, 0, 0, 0), pc + 1) else none
  | .ldiv => if len = 1 then some ((.ldiv, 0, 0, 0), pc + 1) else none
  | .lrem => if len = 1 then some ((.lrem, 0, 0, 0), pc + 1) else none
  | .lcmp => if len = 1 then some ((.lcmp, 0, 0, 0), pc + 1) else none
  | .i2l => if len = 1 then some ((.i2l, 0, 0, 0), pc + 1) else none
  | .l2i => if len = 1 then some ((.l2i, 0, 0, 0), pc + 1) else none
  | .i2b => if len = 1 then some ((.i2b, 0, 0, 0), pc + 1) else none
  | .i2c => if len = 1 then some ((.i2c, 0, 0, 0), pc + 1) else none
  | .dup => if len = 1 then some ((.dup, 0, 0, 0), pc + 1) else none
  | .pop => if len = 1 then some ((.pop, 0, 0, 0), pc + 1) else none
  | .dup_x1 => if len = 1 then some ((.dup_x1, 0, 0, 0), pc + 1) else none
  | .dup2 => if len = 1 then some ((.dup2, 0, 0, 0), pc + 1) else none
  | .goto off => if len = 3 then (sw_tg pc off).map fun t => ((.goto 0, t, 0, 0), t) else none
  | .if_icmp c off => if len = 3 then (sw_tg pc off).map fun t => ((.if_icmp c 0, t, 0, 0), pc + 3) else none
  | .ifCond c off => if len = 3 then (sw_tg pc off).map fun t => ((.ifCond c 0, t, 0, 0), pc + 3) else none
  | _ => none
/-- what an instruction asks: K where it leaves the stretch, N where it goes on -/
def sw_ex (G : sw_G) (i : sw_I) (L : sw_L) (st : List Value) (σ : sw_St) (K : Nat → sw_L → List Value → sw_St → Prop) (N : sw_L → List Value → sw_St → Prop) : Prop := match i.1 with
  | .iconst _ => N L (.int i.2.2.1 :: st) σ
  | .lconst _ => N L (.long i.2.2.2 :: st) σ
  | .iload _ => match sw_lk L i.2.1 with
    | some (.int v) => N L (.int v :: st) σ
    | _ => False
  | .lload _ => match sw_lk L i.2.1 with
    | some (.long v) => N L (.long v :: st) σ
    | _ => False
  | .aload _ => match sw_lk L i.2.1 with
    | some (.ref v) => N L (.ref v :: st) σ
    | _ => False
  | .istore _ => match st with
    | .int v :: r => N (sw_s1 L i.2.1 (.int v)) r σ
    | _ => False
  | .lstore _ => match st with
    | .long v :: r => N (sw_s2 L i.2.1 (.long v)) r σ
    | _ => False
  | .astore _ => match st with
    | .ref v :: r => N (sw_s1 L i.2.1 (.ref v)) r σ
    | _ => False
  | .iinc _ _ => match sw_lk L i.2.1 with
    | some (.int v) => N (sw_s1 L i.2.1 (.int (v + i.2.2.1))) st σ
    | _ => False
  | .getfield _ => match st with
    | .ref o :: r => sw_isO G o (i.2.1 / 1000) = true ∧ (match sw_kd (i.2.1 / 1000) (i.2.1 % 1000) with
      | 3 => ∃ v, σ.2.2 o (i.2.1 % 1000) = some v ∧ N L (.ref v :: r) σ
      | _ => N L (sw_fv σ (i.2.1 / 1000) o (i.2.1 % 1000) :: r) σ)
    | _ => False
  | .putfield _ => match st with
    | .int v :: .ref o :: r => sw_isO G o (i.2.1 / 1000) = true ∧ (match sw_kd (i.2.1 / 1000) (i.2.1 % 1000) with | 0 => True | 1 => (v = 0 ∨ v = 1) | _ => False) ∧ N L r (sw_uI σ o (i.2.1 % 1000) v)
    | .long v :: .ref o :: r => sw_isO G o (i.2.1 / 1000) = true ∧ sw_kd (i.2.1 / 1000) (i.2.1 % 1000) = 2 ∧ N L r (sw_uL σ o (i.2.1 % 1000) v)
    | .ref v :: .ref o :: r => sw_isO G o (i.2.1 / 1000) = true ∧ sw_kd (i.2.1 / 1000) (i.2.1 % 1000) = 3 ∧ N L r (sw_uR σ o (i.2.1 % 1000) (some v))
    | _ => False
  | .iaload => match st with
    | .int i :: .ref o :: r => sw_isA G o 0 = true ∧ vp_in i (sw_ln G o) ∧ N L (.int (σ.1 o i.toNatClampNeg) :: r) σ
    | _ => False
  | .baload => match st with
    | .int i :: .ref o :: r => sw_isA G o 1 = true ∧ vp_in i (sw_ln G o) ∧ N L (.int (σ.1 o i.toNatClampNeg) :: r) σ
    | _ => False
  | .caload => match st with
    | .int i :: .ref o :: r => sw_isA G o 2 = true ∧ vp_in i (sw_ln G o) ∧ N L (.int (σ.1 o i.toNatClampNeg) :: r) σ
    | _ => False
  | .laload => match st with
    | .int i :: .ref o :: r => sw_isA G o 3 = true ∧ vp_in i (sw_ln G o) ∧ N L (.long (σ.2.1 o i.toNatClampNeg) :: r) σ
    | _ => False
  | .aaload => match st with
    | .int i :: .ref o :: r => sw_isA G o 4 = true ∧ vp_in i (sw_ln G o) ∧ ∃ v, σ.2.2 o i.toNatClampNeg = some v ∧ N L (.ref v :: r) σ
    | _ => False
  | .iastore => match st with
    | .int x :: .int i :: .ref o :: r => sw_isA G o 0 = true ∧ vp_in i (sw_ln G o) ∧ N L r (sw_uI σ o i.toNatClampNeg x)
    | _ => False
  | .bastore => match st with
    | .int x :: .int i :: .ref o :: r => sw_isA G o 1 = true ∧ vp_in i (sw_ln G o) ∧ N L r (sw_uI σ o i.toNatClampNeg x.toInt8.toInt32)
    | _ => False
  | .lastore => match st with
    | .long x :: .int i :: .ref o :: r => sw_isA G o 3 = true ∧ vp_in i (sw_ln G o) ∧ N L r (sw_uL σ o i.toNatClampNeg x)
    | _ => False
  | .arraylength => match st with
    | .ref o :: r => (sw_isA G o 0 || sw_isA G o 1 || sw_isA G o 2 || sw_isA G o 3) = true ∧ N L (.int (nI (sw_ln G o)) :: r) σ
    | _ => False
  | .iadd => match st with
    | .int y :: .int x :: r => N L (.int (x + y) :: r) σ
    | _ => False
  | .isub => match st with
    | .int y :: .int x :: r => N L (.int (x - y) :: r) σ
    | _ => False
  | .imul => match st with
    | .int y :: .int x :: r => N L (.int (x * y) :: r) σ
    | _ => False
  | .iand => match st with
    | .int y :: .int x :: r => N L (.int (x &&& y) :: r) σ
    | _ => False
  | .ior => match st with
    | .int y :: .int x :: r => N L (.int (x ||| y) :: r) σ
    | _ => False
  | .ixor => match st with
    | .int y :: .int x :: r => N L (.int (x ^^^ y) :: r) σ
    | _ => False
  | .ishl => match st with
    | .int y :: .int x :: r => N L (.int (x <<< (y &&& 31)) :: r) σ
    | _ => False
  | .ishr => match st with
    | .int y :: .int x :: r => N L (.int (x >>> (y &&& 31)) :: r) σ
    | _ => False
  | .idiv => match st with
    | .int y :: .int x :: r => ¬ y = 0 ∧ N L (.int (x / y) :: r) σ
    | _ => False
  | .irem => match st with
    | .int y :: .int x :: r => ¬ y = 0 ∧ N L (.int (x - x / y * y) :: r) σ
    | _ => False
  | .iushr => match st with
    | .int y :: .int x :: r => N L (.int (x.toUInt32 >>> (y.toUInt32 &&& Int32.toUInt32 31)).toInt32 :: r) σ
    | _ => False
  | .ladd => match st with
    | .long y :: .long x :: r => N L (.long (x + y) :: r) σ
    | _ => False
  | .lsub => match st with
    | .long y :: .long x :: r => N L (.long (x - y) :: r) σ
    | _ => False
  | .lmul => match st with
    | .long y :: .long x :: r => N L (.long (x * y) :: r) σ
    | _ => False
  | .land => match st with
    | .long y :: .long x :: r => N L (.long (x &&& y) :: r) σ
    | _ => False
  | .ldiv => match st with
    | .long y :: .long x :: r => ¬ y = 0 ∧ N L (.long (x / y) :: r) σ
    | _ => False
  | .lrem => match st with
    | .long y :: .long x :: r => ¬ y = 0 ∧ N L (.long (x - x / y * y) :: r) σ
    | _ => False
  | .lcmp => match st with
    | .long y :: .long x :: r => N L (.int (lg_cmp x y) :: r) σ
    | _ => False
  | .i2l => match st with
    | .int x :: r => N L (.long x.toInt64 :: r) σ
    | _ => False
  | .l2i => match st with
    | .long x :: r => N L (.int x.toInt32 :: r) σ
    | _ => False
  | .i2b => match st with
    | .int x :: r => N L (.int x.toInt8.toInt32 :: r) σ
    | _ => False
  | .i2c => match st with
    | .int x :: r => N L (.int (x.toUInt32 % 65536).toInt32 :: r) σ
    | _ => False
  | .dup => match st with
    | v :: r => v.category = 1 ∧ N L (v :: v :: r) σ
    | _ => False
  | .pop => match st with
    | v :: r => v.category = 1 ∧ N L r σ
    | _ => False
  | .dup_x1 => match st with
    | v :: w :: r => v.category = 1 ∧ w.category = 1 ∧ N L (v :: w :: v :: r) σ
    | _ => False
  | .dup2 => match st with
    | v :: w :: r => v.category = 1 ∧ w.category = 1 ∧ N L (v :: w :: v :: w :: r) σ
    | _ => False
  | .goto _ => N L st σ
  | .if_icmp .eq _ => match st with
    | .int y :: .int x :: r => (x = y → K i.2.1 L r σ) ∧ (¬ x = y → N L r σ)
    | _ => False
  | .if_icmp .ne _ => match st with
    | .int y :: .int x :: r => (¬ x = y → K i.2.1 L r σ) ∧ (x = y → N L r σ)
    | _ => False
  | .if_icmp .lt _ => match st with
    | .int y :: .int x :: r => (x < y → K i.2.1 L r σ) ∧ (¬ x < y → N L r σ)
    | _ => False
  | .if_icmp .ge _ => match st with
    | .int y :: .int x :: r => (y ≤ x → K i.2.1 L r σ) ∧ (¬ y ≤ x → N L r σ)
    | _ => False
  | .if_icmp .gt _ => match st with
    | .int y :: .int x :: r => (y < x → K i.2.1 L r σ) ∧ (¬ y < x → N L r σ)
    | _ => False
  | .if_icmp .le _ => match st with
    | .int y :: .int x :: r => (x ≤ y → K i.2.1 L r σ) ∧ (¬ x ≤ y → N L r σ)
    | _ => False
  | .ifCond .eq _ => match st with
    | .int x :: r => (x = 0 → K i.2.1 L r σ) ∧ (¬ x = 0 → N L r σ)
    | _ => False
  | .ifCond .ne _ => match st with
    | .int x :: r => (¬ x = 0 → K i.2.1 L r σ) ∧ (x = 0 → N L r σ)
    | _ => False
  | .ifCond .lt _ => match st with
    | .int x :: r => (x < 0 → K i.2.1 L r σ) ∧ (¬ x < 0 → N L r σ)
    | _ => False
  | .ifCond .ge _ => match st with
    | .int x :: r => (0 ≤ x → K i.2.1 L r σ) ∧ (¬ 0 ≤ x → N L r σ)
    | _ => False
  | .ifCond .gt _ => match st with
    | .int x :: r => (0 < x → K i.2.1 L r σ) ∧ (¬ 0 < x → N L r σ)
    | _ => False
  | .ifCond .le _ => match st with
    | .int x :: r => (x ≤ 0 → K i.2.1 L r σ) ∧ (¬ x ≤ 0 → N L r σ)
    | _ => False
  | _ => False
/-- a stretch: each instruction with the place of the next -/
def sw_rn (G : sw_G) (K : Nat → sw_L → List Value → sw_St → Prop) : Nat → List (sw_I × Nat) → sw_L → List Value → sw_St → Prop
  | pc, [], L, st, σ => K pc L st σ
  | _, q :: r, L, st, σ => sw_ex G q.1 L st σ K (fun L' st' σ' => sw_rn G K q.2 r L' st' σ')
def sw_ck (M : sw_M) : Nat → List (sw_I × Nat) → Bool
  | _, [] => true
  | pc, q :: r => (match decode M.2.1 pc with
    | .ok i => decide (sw_tr M.2.2.2.2 M.2.2.1 pc i.1 i.2 = some q)
    | .error _ => false) && sw_ck M q.2 r
theorem sw_tg_sp {pc t : Nat} {off : Int} (h : sw_tg pc off = some t) : (pc : Int) + off = (t : Int) := by
  unfold sw_tg at h
  split at h
  · next e => cases h; exact e
  · cases h
theorem sw_ff_lt : (sw_ff.all fun q => decide (q.2.2.2.1 < 1000)) = true := by decide +kernel
theorem sw_fl_lt {own idx : Nat} {w : Nat × Nat} (h : sw_fl own idx = some w) : w.2 < 1000 := by
  unfold sw_fl at h
  obtain ⟨q, hq, he⟩ := Option.map_eq_some_iff.mp h
  have h3 := List.all_eq_true.mp sw_ff_lt q (List.mem_of_find?_eq_some hq)
  subst he
  exact of_decide_eq_true h3
section sw_one
variable {E : sw_E} {G : sw_G} {M : sw_M} {d pc : Nat} {L : sw_L} {st : List Value} {σ : sw_St} {Q : Option Value → sw_St → Prop}
set_option maxHeartbeats 4000000 in
theorem sw_one {i : Instr} {len : Nat} {q : sw_I × Nat} {N : sw_L → List Value → sw_St → Prop} (hd : decode M.2.1 pc = .ok (i, len)) (ht : sw_tr M.2.2.2.2 M.2.2.1 pc i len = some q) (h : sw_ex G q.1 L st σ (fun pc' L' st' σ' => sw_W E G M d pc' L' st' σ' Q) N) (hn : ∀ L' st' σ', N L' st' σ' → sw_W E G M d q.2 L' st' σ' Q) : sw_W E G M d pc L st σ Q := by
  unfold sw_tr at ht
  split at ht
  · split at ht
    · next hlen => subst hlen; cases ht; exact so_iconst hd rfl (hn _ _ _ h)
    · cases ht
  · split at ht
    · next hlen => subst hlen; cases ht; exact so_bipush hd rfl (hn _ _ _ h)
    · cases ht
  · split at ht
    · next hlen => subst hlen; cases ht; exact so_sipush hd rfl (hn _ _ _ h)
    · cases ht
  · split at ht
    · next hlen => subst hlen; obtain ⟨v, hv, rfl⟩ := Option.map_eq_some_iff.mp ht; exact so_ldc hd hv (hn _ _ _ h)
    · cases ht
  · split at ht
    · next hlen => subst hlen; obtain ⟨v, hv, rfl⟩ := Option.map_eq_some_iff.mp ht; exact so_ldcw hd hv (hn _ _ _ h)
    · cases ht
  · split at ht
    · next hlen => subst hlen; obtain ⟨v, hv, rfl⟩ := Option.map_eq_some_iff.mp ht; exact so_ldc2 hd hv (hn _ _ _ h)
    · cases ht
  · split at ht
    · next hlen => subst hlen; cases ht; exact so_lconst hd rfl (hn _ _ _ h)
    · cases ht
  · split at ht
    · next hlen =>
      subst hlen; cases ht
      dsimp only [sw_ex] at h
      split at h
      · next hv => exact so_iload hd hv (hn _ _ _ h)
      · exact h.elim
    · cases ht
  · split at ht
    · next hlen =>
      subst hlen; cases ht
      dsimp only [sw_ex] at h
      split at h
      · next hv => exact so_iload_n hd hv (hn _ _ _ h)
      · exact h.elim
    · cases ht
  · split at ht
    · next hlen =>
      subst hlen; cases ht
      dsimp only [sw_ex] at h
      split at h
      · next hv => exact so_lload hd hv (hn _ _ _ h)
      · exact h.elim
    · cases ht
  · split at ht
    · next hlen =>
      subst hlen; cases ht
      dsimp only [sw_ex] at h
      split at h
      · next hv => exact so_lload_n hd hv (hn _ _ _ h)
      · exact h.elim
    · cases ht
  · split at ht
    · next hlen =>
      subst hlen; cases ht
      dsimp only [sw_ex] at h
      split at h
      · next hv => exact so_aload hd hv (hn _ _ _ h)
      · exact h.elim
    · cases ht
  · split at ht
    · next hlen =>
      subst hlen; cases ht
      dsimp only [sw_ex] at h
      split at h
      · next hv => exact so_aload_n hd hv (hn _ _ _ h)
      · exact h.elim
    · cases ht
  · split at ht
    · next hlen =>
      obtain ⟨rfl, hb⟩ := hlen; cases ht
      dsimp only [sw_ex] at h
      split at h
      · exact so_istore hd hb (hn _ _ _ h)
      · exact h.elim
    · cases ht
  · split at ht
    · next hlen =>
      obtain ⟨rfl, hb⟩ := hlen; cases ht
      dsimp only [sw_ex] at h
      split at h
      · exact so_istore_n hd hb (hn _ _ _ h)
      · exact h.elim
    · cases ht
  · split at ht
    · next hlen =>
      obtain ⟨rfl, hb⟩ := hlen; cases ht
      dsimp only [sw_ex] at h
      split at h
      · exact so_lstore hd hb (hn _ _ _ h)
      · exact h.elim
    · cases ht
  · split at ht
    · next hlen =>
      obtain ⟨rfl, hb⟩ := hlen; cases ht
      dsimp only [sw_ex] at h
      split at h
      · exact so_lstore_n hd hb (hn _ _ _ h)
      · exact h.elim
    · cases ht
  · split at ht
    · next hlen =>
      obtain ⟨rfl, hb⟩ := hlen; cases ht
      dsimp only [sw_ex] at h
      split at h
      · exact so_astore hd hb (hn _ _ _ h)
      · exact h.elim
    · cases ht
  · split at ht
    · next hlen =>
      obtain ⟨rfl, hb⟩ := hlen; cases ht
      dsimp only [sw_ex] at h
      split at h
      · exact so_astore_n hd hb (hn _ _ _ h)
      · exact h.elim
    · cases ht
  · split at ht
    · next hlen =>
      obtain ⟨rfl, hb⟩ := hlen; cases ht
      dsimp only [sw_ex] at h
      split at h
      · next hv => exact so_iinc hd hv rfl hb (hn _ _ _ h)
      · exact h.elim
    · cases ht
  · split at ht
    · next hlen =>
      subst hlen; obtain ⟨w, hw, rfl⟩ := Option.map_eq_some_iff.mp ht
      have e1 : (1000 * w.1 + w.2) / 1000 = w.1 := by have := sw_fl_lt hw; omega
      have e2 : (1000 * w.1 + w.2) % 1000 = w.2 := by have := sw_fl_lt hw; omega
      dsimp only [sw_ex] at h
      rw [e1, e2] at h
      split at h
      · obtain ⟨h1, h2⟩ := h
        split at h2
        · next hk3 =>
          obtain ⟨v, hv, h3⟩ := h2
          refine so_get hd hw h1 ?_
          have e3 : ∀ o, σ.2.2 o w.2 = some v → sw_fv σ w.1 o w.2 = .ref v := fun o hv => by unfold sw_fv; rw [hk3, hv]; rfl
          rw [e3 _ hv]
          exact hn _ _ _ h3
        · exact so_get hd hw h1 (hn _ _ _ h2)
      · exact h.elim
    · cases ht
  · split at ht
    · next hlen =>
      subst hlen; obtain ⟨w, hw, rfl⟩ := Option.map_eq_some_iff.mp ht
      have e1 : (1000 * w.1 + w.2) / 1000 = w.1 := by have := sw_fl_lt hw; omega
      have e2 : (1000 * w.1 + w.2) % 1000 = w.2 := by have := sw_fl_lt hw; omega
      dsimp only [sw_ex] at h
      rw [e1, e2] at h
      split at h
      · obtain ⟨h1, h2, h3⟩ := h
        refine so_putI hd hw h1 ?_ (hn _ _ _ h3)
        split at h2
        · next e => exact Or.inl e
        · next e => exact Or.inr ⟨e, h2⟩
        · exact h2.elim
      · exact so_putL hd hw h.1 h.2.1 (hn _ _ _ h.2.2)
      · exact so_putR hd hw h.1 h.2.1 (hn _ _ _ h.2.2)
      · exact h.elim
    · cases ht
  · split at ht
    · next hlen =>
      subst hlen; cases ht
      dsimp only [sw_ex] at h
      split at h
      · exact so_iaload hd h.1 h.2.1 (hn _ _ _ h.2.2)
      · exact h.elim
    · cases ht
  · split at ht
    · next hlen =>
      subst hlen; cases ht
      dsimp only [sw_ex] at h
      split at h
      · exact so_baload hd h.1 h.2.1 (hn _ _ _ h.2.2)
      · exact h.elim
    · cases ht
  · split at ht
    · next hlen =>
      subst hlen; cases ht
      dsimp only [sw_ex] at h
      split at h
      · exact so_caload hd h.1 h.2.1 (hn _ _ _ h.2.2)
      · exact h.elim
    · cases ht
  · split at ht
    · next hlen =>
      subst hlen; cases ht
      dsimp only [sw_ex] at h
      split at h
      · exact so_laload hd h.1 h.2.1 (hn _ _ _ h.2.2)
      · exact h.elim
    · cases ht
  · split at ht
    · next hlen =>
      subst hlen; cases ht
      dsimp only [sw_ex] at h
      split at h
      · obtain ⟨h1, h2, v, h3, h4⟩ := h; exact so_aaload hd h1 h2 h3 (hn _ _ _ h4)
      · exact h.elim
    · cases ht
  · split at ht
    · next hlen =>
      subst hlen; cases ht
      dsimp only [sw_ex] at h
      split at h
      · exact so_iastore hd h.1 h.2.1 (hn _ _ _ h.2.2)
      · exact h.elim
    · cases ht
  · split at ht
    · next hlen =>
      subst hlen; cases ht
      dsimp only [sw_ex] at h
      split at h
      · exact so_bastore hd h.1 h.2.1 (hn _ _ _ h.2.2)
      · exact h.elim
    · cases ht
  · split at ht
    · next hlen =>
      subst hlen; cases ht
      dsimp only [sw_ex] at h
      split at h
      · exact so_lastore hd h.1 h.2.1 (hn _ _ _ h.2.2)
      · exact h.elim
    · cases ht
  · split at ht
    · next hlen =>
      subst hlen; cases ht
      dsimp only [sw_ex] at h
      split at h
      · obtain ⟨h1, h2⟩ := h
        simp only [Bool.or_eq_true] at h1
        rcases h1 with ((h1 | h1) | h1) | h1
        · exact so_alen hd (t := 0) (by decide) h1 rfl (hn _ _ _ h2)
        · exact so_alen hd (t := 1) (by decide) h1 rfl (hn _ _ _ h2)
        · exact so_alen hd (t := 2) (by decide) h1 rfl (hn _ _ _ h2)
        · exact so_alen hd (t := 3) (by decide) h1 rfl (hn _ _ _ h2)
      · exact h.elim
    · cases ht
  · split at ht
    · next hlen =>
      subst hlen; cases ht
      dsimp only [sw_ex] at h
      split at h
      · exact so_iadd hd (hn _ _ _ h)
      · exact h.elim
    · cases ht
  · split at ht
    · next hlen =>
      subst hlen; cases ht
      dsimp only [sw_ex] at h
      split at h
      · exact so_isub hd (hn _ _ _ h)
      · exact h.elim
    · cases ht
  · split at ht
    · next hlen =>
      subst hlen; cases ht
      dsimp only [sw_ex] at h
      split at h
      · exact so_imul hd (hn _ _ _ h)
      · exact h.elim
    · cases ht
  · split at ht
    · next hlen =>
      subst hlen; cases ht
      dsimp only [sw_ex] at h
      split at h
      · exact so_iand hd (hn _ _ _ h)
      · exact h.elim
    · cases ht
  · split at ht
    · next hlen =>
      subst hlen; cases ht
      dsimp only [sw_ex] at h
      split at h
      · exact so_ior hd (hn _ _ _ h)
      · exact h.elim
    · cases ht
  · split at ht
    · next hlen =>
      subst hlen; cases ht
      dsimp only [sw_ex] at h
      split at h
      · exact so_ixor hd (hn _ _ _ h)
      · exact h.elim
    · cases ht
  · split at ht
    · next hlen =>
      subst hlen; cases ht
      dsimp only [sw_ex] at h
      split at h
      · exact so_ishl hd (hn _ _ _ h)
      · exact h.elim
    · cases ht
  · split at ht
    · next hlen =>
      subst hlen; cases ht
      dsimp only [sw_ex] at h
      split at h
      · exact so_ishr hd (hn _ _ _ h)
      · exact h.elim
    · cases ht
  · split at ht
    · next hlen =>
      subst hlen; cases ht
      dsimp only [sw_ex] at h
      split at h
      · exact so_idiv hd h.1 (hn _ _ _ h.2)
      · exact h.elim
    · cases ht
  · split at ht
    · next hlen =>
      subst hlen; cases ht
      dsimp only [sw_ex] at h
      split at h
      · exact so_irem hd h.1 (hn _ _ _ h.2)
      · exact h.elim
    · cases ht
  · split at ht
    · next hlen =>
      subst hlen; cases ht
      dsimp only [sw_ex] at h
      split at h
      · exact so_iushr hd rfl (hn _ _ _ h)
      · exact h.elim
    · cases ht
  · split at ht
    · next hlen =>
      subst hlen; cases ht
      dsimp only [sw_ex] at h
      split at h
      · exact so_ladd hd (hn _ _ _ h)
      · exact h.elim
    · cases ht
  · split at ht
    · next hlen =>
      subst hlen; cases ht
      dsimp only [sw_ex] at h
      split at h
      · exact so_lsub hd (hn _ _ _ h)
      · exact h.elim
    · cases ht
  · split at ht
    · next hlen =>
      subst hlen; cases ht
      dsimp only [sw_ex] at h
      split at h
      · exact so_lmul hd (hn _ _ _ h)
      · exact h.elim
    · cases ht
  · split at ht
    · next hlen =>
      subst hlen; cases ht
      dsimp only [sw_ex] at h
      split at h
      · exact so_land hd (hn _ _ _ h)
      · exact h.elim
    · cases ht
  · split at ht
    · next hlen =>
      subst hlen; cases ht
      dsimp only [sw_ex] at h
      split at h
      · exact so_ldiv hd h.1 (hn _ _ _ h.2)
      · exact h.elim
    · cases ht
  · split at ht
    · next hlen =>
      subst hlen; cases ht
      dsimp only [sw_ex] at h
      split at h
      · exact so_lrem hd h.1 (hn _ _ _ h.2)
      · exact h.elim
    · cases ht
  · split at ht
    · next hlen =>
      subst hlen; cases ht
      dsimp only [sw_ex] at h
      split at h
      · exact so_lcmp hd (hn _ _ _ h)
      · exact h.elim
    · cases ht
  · split at ht
    · next hlen =>
      subst hlen; cases ht
      dsimp only [sw_ex] at h
      split at h
      · exact so_i2l hd rfl (hn _ _ _ h)
      · exact h.elim
    · cases ht
  · split at ht
    · next hlen =>
      subst hlen; cases ht
      dsimp only [sw_ex] at h
      split at h
      · exact so_l2i hd rfl (hn _ _ _ h)
      · exact h.elim
    · cases ht
  · split at ht
    · next hlen =>
      subst hlen; cases ht
      dsimp only [sw_ex] at h
      split at h
      · exact so_i2b hd rfl (hn _ _ _ h)
      · exact h.elim
    · cases ht
  · split at ht
    · next hlen =>
      subst hlen; cases ht
      dsimp only [sw_ex] at h
      split at h
      · exact so_i2c hd rfl (hn _ _ _ h)
      · exact h.elim
    · cases ht
  · split at ht
    · next hlen =>
      subst hlen; cases ht
      dsimp only [sw_ex] at h
      split at h
      · exact so_dup hd h.1 (hn _ _ _ h.2)
      · exact h.elim
    · cases ht
  · split at ht
    · next hlen =>
      subst hlen; cases ht
      dsimp only [sw_ex] at h
      split at h
      · exact so_pop hd h.1 (hn _ _ _ h.2)
      · exact h.elim
    · cases ht
  · split at ht
    · next hlen =>
      subst hlen; cases ht
      dsimp only [sw_ex] at h
      split at h
      · exact so_dup_x1 hd h.1 h.2.1 (hn _ _ _ h.2.2)
      · exact h.elim
    · cases ht
  · split at ht
    · next hlen =>
      subst hlen; cases ht
      dsimp only [sw_ex] at h
      split at h
      · exact so_dup2_11 hd h.1 h.2.1 (hn _ _ _ h.2.2)
      · exact h.elim
    · cases ht
  · split at ht
    · next hlen => subst hlen; obtain ⟨t, hv, rfl⟩ := Option.map_eq_some_iff.mp ht; exact so_goto hd (sw_tg_sp hv) (hn _ _ _ h)
    · cases ht
  · split at ht
    · next cnd off hlen =>
      subst hlen; obtain ⟨t, hv, rfl⟩ := Option.map_eq_some_iff.mp ht
      cases cnd
      · dsimp only [sw_ex] at h
        split at h
        · exact so_icmp_eq hd (sw_tg_sp hv) h.1 (fun z => hn _ _ _ (h.2 z))
        · exact h.elim
      · dsimp only [sw_ex] at h
        split at h
        · exact so_icmp_ne hd (sw_tg_sp hv) h.1 (fun z => hn _ _ _ (h.2 z))
        · exact h.elim
      · dsimp only [sw_ex] at h
        split at h
        · exact so_icmp_lt hd (sw_tg_sp hv) h.1 (fun z => hn _ _ _ (h.2 z))
        · exact h.elim
      · dsimp only [sw_ex] at h
        split at h
        · exact so_icmp_ge hd (sw_tg_sp hv) h.1 (fun z => hn _ _ _ (h.2 z))
        · exact h.elim
      · dsimp only [sw_ex] at h
        split at h
        · exact so_icmp_gt hd (sw_tg_sp hv) h.1 (fun z => hn _ _ _ (h.2 z))
        · exact h.elim
      · dsimp only [sw_ex] at h
        split at h
        · exact so_icmp_le hd (sw_tg_sp hv) h.1 (fun z => hn _ _ _ (h.2 z))
        · exact h.elim
    · cases ht
  · split at ht
    · next cnd off hlen =>
      subst hlen; obtain ⟨t, hv, rfl⟩ := Option.map_eq_some_iff.mp ht
      cases cnd
      · dsimp only [sw_ex] at h
        split at h
        · exact so_if_eq hd (sw_tg_sp hv) h.1 (fun z => hn _ _ _ (h.2 z))
        · exact h.elim
      · dsimp only [sw_ex] at h
        split at h
        · exact so_if_ne hd (sw_tg_sp hv) h.1 (fun z => hn _ _ _ (h.2 z))
        · exact h.elim
      · dsimp only [sw_ex] at h
        split at h
        · exact so_if_lt hd (sw_tg_sp hv) h.1 (fun z => hn _ _ _ (h.2 z))
        · exact h.elim
      · dsimp only [sw_ex] at h
        split at h
        · exact so_if_ge hd (sw_tg_sp hv) h.1 (fun z => hn _ _ _ (h.2 z))
        · exact h.elim
      · dsimp only [sw_ex] at h
        split at h
        · exact so_if_gt hd (sw_tg_sp hv) h.1 (fun z => hn _ _ _ (h.2 z))
        · exact h.elim
      · dsimp only [sw_ex] at h
        split at h
        · exact so_if_le hd (sw_tg_sp hv) h.1 (fun z => hn _ _ _ (h.2 z))
        · exact h.elim
    · cases ht
  · cases ht
/-- a stretch is sound -/
theorem sw_go : ∀ (is : List (sw_I × Nat)) (pc : Nat) (L : sw_L) (st : List Value) (σ : sw_St), sw_ck M pc is = true → sw_rn G (fun pc' L' st' σ' => sw_W E G M d pc' L' st' σ' Q) pc is L st σ → sw_W E G M d pc L st σ Q
  | [], _, _, _, _, _, h => h
  | q :: r, pc, L, st, σ, hc, h => by
    unfold sw_ck at hc
    rw [Bool.and_eq_true] at hc
    obtain ⟨h1, h2⟩ := hc
    split at h1
    · next i hd =>
      exact sw_one (i := i.1) (len := i.2) hd (of_decide_eq_true h1) h (fun L' st' σ' h' => sw_go r q.2 L' st' σ' h2 h')
    · cases h1
end sw_one
/-- the same locals, picked -/
theorem sw_pick {E : sw_E} {G : sw_G} {M : sw_M} {d pc : Nat} {L L' : sw_L} {st : List Value} {σ : sw_St} {Q : Option Value → sw_St → Prop} (ks : List Nat) (hp : lv_pick L ks = L') (k : sw_W E G M d pc L' st σ Q) : sw_W E G M d pc L st σ Q := by
  intro p e s m args below meth c C A H locs ls hA hP hD hS hl
  refine k p e s m args below meth c C A H locs ls hA hP hD hS ⟨hl.1, hl.2.1, fun q hq => ?_⟩
  obtain ⟨q', h1, rfl⟩ := List.mem_map.mp hq
  rw [← hp] at h1
  obtain ⟨k', -, hk⟩ := List.mem_filterMap.mp h1
  exact hl.2.2 _ (List.mem_map.mpr ⟨q', List.mem_of_getElem? hk, rfl⟩)
/-- switches: each value its place, else the default's -/
def sw_sp (x : Int32) (df : Nat) (K : Nat → Prop) : List (Int32 × Nat) → Prop
  | [] => K df
  | q :: r => (x = q.1 → K q.2) ∧ (¬ x = q.1 → sw_sp x df K r)
def sw_ckT (pc : Nat) (dflt lo hi : Int) (offs : Array Int) (vs : List (Int32 × Nat)) (df : Nat) : Bool :=
  decide ((pc : Int) + dflt = (df : Int)) && decide ((vs.length : Int) = hi - lo + 1) && (List.range vs.length).all fun j => decide ((vs.getD j (0, 0)).1.toInt = lo + j) && (match offs[j]? with
    | some off => decide ((pc : Int) + off = ((vs.getD j (0, 0)).2 : Int))
    | none => false)
theorem sw_sp_of {x : Int32} {df : Nat} {K : Nat → Prop} : ∀ (vs : List (Int32 × Nat)), sw_sp x df K vs → (∃ (j : Nat) (q : Int32 × Nat), vs[j]? = some q ∧ x = q.1 ∧ K q.2) ∨ ((∀ q ∈ vs, ¬ x = q.1) ∧ K df)
  | [], h => Or.inr ⟨fun _ hq => absurd hq List.not_mem_nil, h⟩
  | q :: r, h => by
    by_cases hx : x = q.1
    · exact Or.inl ⟨0, q, rfl, hx, h.1 hx⟩
    · rcases sw_sp_of r (h.2 hx) with ⟨j, w, h1, h2, h3⟩ | ⟨h1, h2⟩
      · exact Or.inl ⟨j + 1, w, h1, h2, h3⟩
      · refine Or.inr ⟨fun w hw => ?_, h2⟩
        rcases List.mem_cons.mp hw with rfl | hw
        · exact hx
        · exact h1 w hw
theorem sw_table {E : sw_E} {G : sw_G} {M : sw_M} {d pc : Nat} {L : sw_L} {st : List Value} {σ : sw_St} {Q : Option Value → sw_St → Prop} {dflt lo hi : Int} {offs : Array Int} {len : Nat} {x : Int32} {df : Nat} (vs : List (Int32 × Nat)) (hd : decode M.2.1 pc = .ok (.tableswitch dflt lo hi offs, len)) (hc : sw_ckT pc dflt lo hi offs vs df = true) (h : sw_sp x df (fun t => sw_W E G M d t L st σ Q) vs) : sw_W E G M d pc L (.int x :: st) σ Q := by
  unfold sw_ckT at hc
  simp only [Bool.and_eq_true, decide_eq_true_eq, List.all_eq_true, List.mem_range] at hc
  obtain ⟨⟨h1, h2⟩, h3⟩ := hc
  rcases sw_sp_of vs h with ⟨j, q, e1, e2, e3⟩ | ⟨e1, e2⟩
  · have hj : j < vs.length := (List.getElem?_eq_some_iff.mp e1).1
    have hg : vs.getD j (0, 0) = q := by rw [List.getD_eq_getElem?_getD, e1]; rfl
    obtain ⟨g1, g2⟩ := h3 j hj
    rw [hg] at g1 g2
    split at g2
    · next off ho =>
      have ex : x.toInt = lo + j := by rw [e2]; exact g1
      have eo : (x.toInt - lo).toNat = j := by omega
      exact so_tableIn hd (by omega) (by omega) (by rw [eo]; exact ho) (of_decide_eq_true g2) e3
    · cases g2
  · refine so_tableOut hd ?_ h1 e2
    rcases Int.lt_or_le x.toInt lo with hlo | hlo
    · exact Or.inl hlo
    · rcases Int.lt_or_le hi x.toInt with hhi | hhi
      · exact Or.inr hhi
      · exfalso
        have hj : (x.toInt - lo).toNat < vs.length := by omega
        obtain ⟨g1, -⟩ := h3 _ hj
        have hg : vs[(x.toInt - lo).toNat]? = some (vs.getD (x.toInt - lo).toNat (0, 0)) := by
          rw [List.getD_eq_getElem?_getD, List.getElem?_eq_getElem hj]; rfl
        refine e1 _ (List.mem_of_getElem? hg) ?_
        apply Int32.toInt_inj.mp
        rw [g1]
        omega
def sw_ckL (pc : Nat) (dflt : Int) (ps : Array (Int × Int)) (vs : List (Int32 × Nat)) (df : Nat) : Bool :=
  decide ((pc : Int) + dflt = (df : Int)) && ((ps.toList.zip (ps.toList.drop 1)).all fun (a, next) => a.1 < next.1) && decide (ps.toList.map (fun q => (q.1, (pc : Int) + q.2)) = vs.map fun q => (q.1.toInt, (q.2 : Int)))
theorem sw_sp_off {x : Int32} {df pc : Nat} {dflt : Int} {K : Nat → Prop} (hdf : (pc : Int) + dflt = (df : Int)) : ∀ (vs : List (Int32 × Nat)) (ps : List (Int × Int)), ps.map (fun q => (q.1, (pc : Int) + q.2)) = vs.map (fun q => (q.1.toInt, (q.2 : Int))) → sw_sp x df K vs → ∃ t : Nat, (pc : Int) + Op.lookupswitch.offset ps dflt x.toInt = (t : Int) ∧ K t
  | [], [], _, h => ⟨df, hdf, h⟩
  | [], _ :: _, he, _ => by cases he
  | _ :: _, [], he, _ => by cases he
  | q :: r, w :: u, he, h => by
    rw [List.map_cons, List.map_cons] at he
    obtain ⟨h1, h2⟩ := List.cons.inj he
    obtain ⟨g1, g2⟩ := Prod.mk.inj h1
    by_cases hx : x = q.1
    · refine ⟨q.2, ?_, h.1 hx⟩
      have : w.1 = x.toInt := by rw [hx]; exact g1
      unfold Op.lookupswitch.offset
      simp [this]
      exact g2
    · obtain ⟨t, t1, t2⟩ := sw_sp_off hdf r u h2 (h.2 hx)
      refine ⟨t, ?_, t2⟩
      rw [← t1]
      have : ¬ w.1 = x.toInt := fun z => hx (Int32.toInt_inj.mp (by rw [← z]; exact g1))
      rw [show Op.lookupswitch.offset (w :: u) dflt x.toInt = Op.lookupswitch.offset u dflt x.toInt from if_neg this]
theorem sw_look {E : sw_E} {G : sw_G} {M : sw_M} {d pc : Nat} {L : sw_L} {st : List Value} {σ : sw_St} {Q : Option Value → sw_St → Prop} {dflt : Int} {ps : Array (Int × Int)} {len : Nat} {x : Int32} {df : Nat} (vs : List (Int32 × Nat)) (hd : decode M.2.1 pc = .ok (.lookupswitch dflt ps, len)) (hc : sw_ckL pc dflt ps vs df = true) (h : sw_sp x df (fun t => sw_W E G M d t L st σ Q) vs) : sw_W E G M d pc L (.int x :: st) σ Q := by
  unfold sw_ckL at hc
  simp only [Bool.and_eq_true, decide_eq_true_eq] at hc
  obtain ⟨⟨h1, h2⟩, h3⟩ := hc
  obtain ⟨t, t1, t2⟩ := sw_sp_off h1 vs ps.toList h3 h
  exact so_lookup hd h2 rfl t1 t2

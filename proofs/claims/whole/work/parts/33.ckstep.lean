/-! The run itself. -/
def sc_aty (t : ArrayType) : Option Nat := match t with
  | .int => some 0
  | .byte => some 1
  | .char => some 2
  | .long => some 3
  | _ => none
def sc_free (L : sw_L) (st : List Value) (cs : List sc_C) : Bool := cs.all (sc_ok cs.length) && sc_okL cs.length L && st.all (sc_okv cs.length)
def sc_finOk (M : sw_M) (c k : Nat) : Bool := !sc_fin c k || (decide (M.1.name = "<init>") && decide (M.2.2.2.2 = c) && decide (sw_nm c = (match vwCl[c]? with | some V => (V.2.1 k).1 | none => "")))
def sc_st (M : sw_M) (pc : Nat) (i : Instr) (len : Nat) (L : sw_L) (st : List Value) (cs : List sc_C) : Option (Nat × sw_L × List Value × List sc_C) := match i with
  | .iconst n => if len = 1 then some (pc + 1, L, .int (Int32.ofInt n) :: st, cs) else none
  | .bipush n => if len = 2 then some (pc + 2, L, .int (Int8.ofInt n).toInt32 :: st, cs) else none
  | .sipush n => if len = 3 then some (pc + 3, L, .int (Int16.ofInt n).toInt32 :: st, cs) else none
  | .lconst n => if len = 1 then some (pc + 1, L, .long (Int64.ofNat (n : Nat)) :: st, cs) else none
  | .aload_n x => match sw_lk L x with
    | some (.ref v) => if len = 1 then some (pc + 1, L, .ref v :: st, cs) else none
    | _ => none
  | .iload_n x => match sw_lk L x with
    | some (.int v) => if len = 1 then some (pc + 1, L, .int v :: st, cs) else none
    | _ => none
  | .istore_n x => match st with
    | .int v :: r => if len = 1 ∧ (x : Nat) < M.2.2.1 then some (pc + 1, sw_s1 L x (.int v), r, cs) else none
    | _ => none
  | .iinc x n => match sw_lk L x with
    | some (.int v) => if len = 3 ∧ x < M.2.2.1 then some (pc + 3, sw_s1 L x (.int (v + Int32.ofInt n)), st, cs) else none
    | _ => none
  | .dup => match st with
    | v :: r => if len = 1 ∧ v.category = 1 then some (pc + 1, L, v :: v :: r, cs) else none
    | _ => none
  | .iadd => match st with
    | .int y :: .int x :: r => if len = 1 then some (pc + 1, L, .int (x + y) :: r, cs) else none
    | _ => none
  | .goto off => if len = 3 then (sw_tg pc off).map fun t => (t, L, st, cs) else none
  | .if_icmp .ge off => match st with
    | .int y :: .int x :: r => if len = 3 then (sw_tg pc off).map fun t => (if y ≤ x then t else pc + 3, L, r, cs) else none
    | _ => none
  | .arraylength => match st with
    | .ref v :: r => match cs[v]? with
      | some (.inr q) => if len = 1 ∧ q.1 < 4 then some (pc + 1, L, .int (nI q.2.1) :: r, cs) else none
      | _ => none
    | _ => none
  | .newarray t => match sc_aty t, st with
    | some ty, .int n :: r => if len = 2 ∧ ¬ n < 0 ∧ n.toNatClampNeg ≤ 10000 ∧ sc_free L r cs = true then some (pc + 2, L, .ref cs.length :: r, cs ++ [.inr (ty, n.toNatClampNeg, [])]) else none
    | _, _ => none
  | .anewarray idx => match st with
    | .int n :: r => if len = 3 ∧ sc_clL M.2.2.2.2 idx = some 8 ∧ ¬ n < 0 ∧ n.toNatClampNeg ≤ 10000 ∧ sc_free L r cs = true then some (pc + 3, L, .ref cs.length :: r, cs ++ [.inr (4, n.toNatClampNeg, [])]) else none
    | _ => none
  | .new idx => match sc_clL M.2.2.2.2 idx with
    | some c => if len = 3 ∧ sc_free L st cs = true then some (pc + 3, L, .ref cs.length :: st, cs ++ [.inl (c, sc_df c)]) else none
    | none => none
  | .putfield idx => match sw_fl M.2.2.2.2 idx, st with
    | some w, v :: .ref o :: r => match cs[o]? with
      | some (.inl q) => if len = 3 ∧ q.1 = w.1 ∧ w.2 < q.2.length ∧ sc_fits w.1 w.2 v = true ∧ sc_finOk M w.1 w.2 = true then some (pc + 3, L, r, cs.set o (.inl (w.1, q.2.set w.2 v))) else none
      | _ => none
    | _, _ => none
  | .getfield idx => match sw_fl M.2.2.2.2 idx, st with
    | some w, .ref o :: r => match cs[o]? with
      | some (.inl q) => match q.2[w.2]? with
        | some v => if len = 3 ∧ q.1 = w.1 then some (pc + 3, L, v :: r, cs) else none
        | none => none
      | _ => none
    | _, _ => none
  | .iastore => match st with
    | .int x :: .int i :: .ref o :: r => match cs[o]? with
      | some (.inr q) => if len = 1 ∧ q.1 = 0 ∧ sw_inb i q.2.1 = true then some (pc + 1, L, r, cs.set o (.inr (0, q.2.1, (i.toNatClampNeg, .int x) :: q.2.2))) else none
      | _ => none
    | _ => none
  | .castore => match st with
    | .int x :: .int i :: .ref o :: r => match cs[o]? with
      | some (.inr q) => if len = 1 ∧ q.1 = 2 ∧ sw_inb i q.2.1 = true then some (pc + 1, L, r, cs.set o (.inr (2, q.2.1, (i.toNatClampNeg, .int (vp_nar .char x)) :: q.2.2))) else none
      | _ => none
    | _ => none
  | .aastore => match st with
    | .ref v :: .int i :: .ref o :: r => match cs[o]?, cs[v]? with
      | some (.inr q), some (.inl w) => if len = 1 ∧ q.1 = 4 ∧ w.1 = 8 ∧ sw_inb i q.2.1 = true then some (pc + 1, L, r, cs.set o (.inr (4, q.2.1, (i.toNatClampNeg, .ref v) :: q.2.2))) else none
      | _, _ => none
    | _ => none
  | _ => none
theorem sc_sz_set {cs : List sc_C} {o : Nat} {x y : sc_C} (h : cs[o]? = some x) (he : sc_s1 y = sc_s1 x) : sc_sz (cs.set o y) = sc_sz cs := by
  unfold sc_sz
  rw [List.map_set, he]
  congr 1
  apply List.ext_getElem?
  intro j
  by_cases hj : j = o
  · subst hj
    have hl : j < (cs.map sc_s1).length := by rw [List.length_map]; exact (List.getElem?_eq_some_iff.mp h).1
    rw [List.getElem?_set_self hl, List.getElem?_map, h]; rfl
  · rw [List.getElem?_set_ne (Ne.symm hj)]
theorem sc_sz_app {cs : List sc_C} {x : sc_C} : sc_sz (cs ++ [x]) = sc_sz cs + sc_s1 x := by
  unfold sc_sz
  simp
def sc_Ok (M : sw_M) (pc : Nat) (L : sw_L) (st : List Value) (cs : List sc_C) (r : Nat × sw_L × List Value × List sc_C) : Prop :=
  (cs.length ≤ r.2.2.2.length ∧ sc_sz cs ≤ sc_sz r.2.2.2) ∧ ∀ (E : sw_E) (d mcT msT n0 : Nat) (csF : List sc_C) (cells slots : Nat), cells + (r.2.2.2.length - cs.length) ≤ mcT → slots + (sc_sz r.2.2.2 - sc_sz cs) ≤ msT → sc_W E M d mcT msT n0 csF (cells + (r.2.2.2.length - cs.length)) (slots + (sc_sz r.2.2.2 - sc_sz cs)) r.1 r.2.1 r.2.2.1 r.2.2.2 → sc_W E M d mcT msT n0 csF cells slots pc L st cs
theorem sc_keep {M : sw_M} {pc : Nat} {L : sw_L} {st : List Value} {cs : List sc_C} {r : Nat × sw_L × List Value × List sc_C} (h1 : r.2.2.2.length = cs.length) (h2 : sc_sz r.2.2.2 = sc_sz cs) (k : ∀ (E : sw_E) (d mcT msT n0 : Nat) (csF : List sc_C) (cells slots : Nat), sc_W E M d mcT msT n0 csF cells slots r.1 r.2.1 r.2.2.1 r.2.2.2 → sc_W E M d mcT msT n0 csF cells slots pc L st cs) : sc_Ok M pc L st cs r := by
  refine ⟨⟨by omega, by omega⟩, fun E d mcT msT n0 csF cells slots _ _ h => k E d mcT msT n0 csF cells slots ?_⟩
  rw [h1, h2, Nat.sub_self, Nat.sub_self, Nat.add_zero, Nat.add_zero] at h
  exact h
theorem sc_grow {M : sw_M} {pc : Nat} {L : sw_L} {st : List Value} {cs : List sc_C} {x : sc_C} {pc' : Nat} {L' : sw_L} {st' : List Value} (k : ∀ (E : sw_E) (d mcT msT n0 : Nat) (csF : List sc_C) (cells slots : Nat), cells + 1 ≤ mcT → slots + sc_s1 x ≤ msT → sc_W E M d mcT msT n0 csF (cells + 1) (slots + sc_s1 x) pc' L' st' (cs ++ [x]) → sc_W E M d mcT msT n0 csF cells slots pc L st cs) : sc_Ok M pc L st cs (pc', L', st', cs ++ [x]) := by
  have e1 : (cs ++ [x]).length - cs.length = 1 := by rw [List.length_append]; simp
  have e2 : sc_sz (cs ++ [x]) - sc_sz cs = sc_s1 x := by rw [sc_sz_app]; omega
  refine ⟨⟨by show cs.length ≤ (cs ++ [x]).length; rw [List.length_append]; omega, by show sc_sz cs ≤ sc_sz (cs ++ [x]); rw [sc_sz_app]; omega⟩, fun E d mcT msT n0 csF cells slots h1 h2 h => ?_⟩
  dsimp only at h1 h2 h
  rw [e1] at h1 h
  rw [e2] at h2 h
  exact k E d mcT msT n0 csF cells slots h1 h2 h
theorem sc_free_sp {L : sw_L} {st : List Value} {cs : List sc_C} (h : sc_free L st cs = true) : cs.all (sc_ok cs.length) = true ∧ sc_okL cs.length L = true ∧ st.all (sc_okv cs.length) = true := by
  unfold sc_free at h
  rw [Bool.and_eq_true, Bool.and_eq_true] at h
  exact ⟨h.1.1, h.1.2, h.2⟩
theorem sc_arrW : Cond.arrayClass .int ∈ sw_T ∧ Cond.arrayClass .byte ∈ sw_T ∧ Cond.arrayClass .char ∈ sw_T ∧ Cond.arrayClass .long ∈ sw_T := ⟨sw_T_at 207 (by decide +kernel), sw_T_at 188 (by decide +kernel), sw_T_at 1574 (by decide +kernel), sw_T_at 512 (by decide +kernel)⟩
set_option maxHeartbeats 4000000 in
theorem sc_st_ok {M : sw_M} {pc len : Nat} {i : Instr} {L : sw_L} {st : List Value} {cs : List sc_C} {r : Nat × sw_L × List Value × List sc_C} (hd : decode M.2.1 pc = .ok (i, len)) (h : sc_st M pc i len L st cs = some r) : sc_Ok M pc L st cs r := by
  unfold sc_st at h
  split at h
  · split at h
    · next hl => subst hl; cases h; exact sc_keep rfl rfl (fun E d mcT msT n0 csF cells slots k => sd_iconst hd k)
    · cases h
  · split at h
    · next hl => subst hl; cases h; exact sc_keep rfl rfl (fun E d mcT msT n0 csF cells slots k => sd_bipush hd k)
    · cases h
  · split at h
    · next hl => subst hl; cases h; exact sc_keep rfl rfl (fun E d mcT msT n0 csF cells slots k => sd_sipush hd k)
    · cases h
  · split at h
    · next hl => subst hl; cases h; exact sc_keep rfl rfl (fun E d mcT msT n0 csF cells slots k => sd_lconst hd k)
    · cases h
  · split at h
    · next hv =>
      split at h
      · next hl => subst hl; cases h; exact sc_keep rfl rfl (fun E d mcT msT n0 csF cells slots k => sd_aload hd hv k)
      · cases h
    · cases h
  · split at h
    · next hv =>
      split at h
      · next hl => subst hl; cases h; exact sc_keep rfl rfl (fun E d mcT msT n0 csF cells slots k => sd_iload hd hv k)
      · cases h
    · cases h
  · split at h
    · split at h
      · next hl => obtain ⟨rfl, hx⟩ := hl; cases h; exact sc_keep rfl rfl (fun E d mcT msT n0 csF cells slots k => sd_istore hd hx k)
      · cases h
    · cases h
  · split at h
    · next hv =>
      split at h
      · next hl => obtain ⟨rfl, hx⟩ := hl; cases h; exact sc_keep rfl rfl (fun E d mcT msT n0 csF cells slots k => sd_iinc hd hv hx k)
      · cases h
    · cases h
  · split at h
    · split at h
      · next hl => obtain ⟨rfl, hx⟩ := hl; cases h; exact sc_keep rfl rfl (fun E d mcT msT n0 csF cells slots k => sd_dup hd hx k)
      · cases h
    · cases h
  · split at h
    · split at h
      · next hl => subst hl; cases h; exact sc_keep rfl rfl (fun E d mcT msT n0 csF cells slots k => sd_iadd hd k)
      · cases h
    · cases h
  · split at h
    · next hl => subst hl; obtain ⟨t, ht, rfl⟩ := Option.map_eq_some_iff.mp h; exact sc_keep rfl rfl (fun E d mcT msT n0 csF cells slots k => sd_goto hd (sw_tg_sp ht) k)
    · cases h
  · split at h
    · split at h
      · next hl => subst hl; obtain ⟨t, ht, rfl⟩ := Option.map_eq_some_iff.mp h; exact sc_keep rfl rfl (fun E d mcT msT n0 csF cells slots k => sd_icmp_ge hd (sw_tg_sp ht) k)
      · cases h
    · cases h
  · split at h
    · split at h
      · next q hq =>
        split at h
        · next hl => obtain ⟨rfl, hx⟩ := hl; cases h; exact sc_keep rfl rfl (fun E d mcT msT n0 csF cells slots k => sd_alen (t := q.1) (n := q.2.1) (u := q.2.2) hd hq hx k)
        · cases h
      · cases h
    · cases h
  · split at h
    · next hty =>
      split at h
      · next n r hl =>
        obtain ⟨rfl, hn, hb, hf⟩ := hl
        obtain ⟨f1, f2, f3⟩ := sc_free_sp hf
        cases h
        refine sc_grow (fun E d mcT msT n0 csF cells slots h1 h2 k => ?_)
        unfold sc_aty at hty
        split at hty
        · cases hty; exact sd_newarray 0 .int hd rfl sc_arrW.1 rfl (fun _ _ h => h) (n.toNatClampNeg, .inl (sc_iv [])) (fun _ => rfl) (fun _ => rfl) hn (by show n.toNatClampNeg * 4 ≤ _; omega) h1 h2 f1 f2 f3 k
        · cases hty; exact sd_newarray 1 .byte hd rfl sc_arrW.2.1 rfl (fun _ _ h => h) (n.toNatClampNeg, .inl (sc_iv [])) (fun _ => rfl) (fun _ => rfl) hn (by show n.toNatClampNeg * 1 ≤ _; omega) h1 h2 f1 f2 f3 k
        · cases hty; exact sd_newarray 2 .char hd rfl sc_arrW.2.2.1 rfl (fun _ _ h => h) (n.toNatClampNeg, .inl (sc_iv [])) (fun _ => rfl) (fun _ => rfl) hn (by show n.toNatClampNeg * 2 ≤ _; omega) h1 h2 f1 f2 f3 k
        · cases hty; exact sd_newarray 3 .long hd rfl sc_arrW.2.2.2 rfl (fun _ _ h => h) (n.toNatClampNeg, .inr (.inl fun _ => 0)) (fun _ => rfl) (fun _ => rfl) hn (by show n.toNatClampNeg * 8 ≤ _; omega) h1 h2 f1 f2 f3 k
        · cases hty
      · cases h
    · cases h
  · split at h
    · split at h
      · next hl =>
        obtain ⟨rfl, hc, hn, hb, hf⟩ := hl
        obtain ⟨f1, f2, f3⟩ := sc_free_sp hf
        cases h
        exact sc_grow (fun E d mcT msT n0 csF cells slots h1 h2 k => sd_anewarray hd (sc_cl_in hc).2.1 hn (by omega) h1 h2 f1 f2 f3 k)
      · cases h
    · cases h
  · split at h
    · next hc =>
      split at h
      · next hl =>
        obtain ⟨rfl, hf⟩ := hl
        obtain ⟨f1, f2, f3⟩ := sc_free_sp hf
        obtain ⟨g1, g2, g3, g4⟩ := sc_cl_in hc
        cases h
        refine sc_grow (fun E d mcT msT n0 csF cells slots h1 h2 k => ?_)
        have e9 : ∀ c, sc_s1 (.inl (c, sc_df c)) = sw_nf c := fun c => by
          show (sc_df c).length = sw_nf c
          unfold sc_df sw_nf
          rw [List.length_map]
        rw [e9] at h2 k
        exact sd_new hd g1 g2 g3 g4 h1 h2 f1 f2 f3 k
      · cases h
    · cases h
  · split at h
    · next _ w v o r hw =>
      split at h
      · next q hq =>
        split at h
        · next hl =>
          obtain ⟨rfl, e1, h2, h3, h4⟩ := hl
          cases h
          have hq' : cs[o]? = some (.inl (w.1, q.2)) := by rw [hq, ← e1]
          refine sc_keep (by simp) (sc_sz_set hq' (by simp [sc_s1])) (fun E d mcT msT n0 csF cells slots k => sd_put hd hw hq' h2 h3 ?_ k)
          unfold sc_finOk at h4
          simp only [Bool.or_eq_true, Bool.and_eq_true, Bool.not_eq_true', decide_eq_true_eq] at h4
          rcases h4 with h4 | h4
          · exact Or.inl h4
          · exact Or.inr ⟨h4.1.1, h4.1.2, h4.2⟩
        · cases h
      · cases h
    · cases h
  · split at h
    · next _ w o r hw =>
      split at h
      · next q hq =>
        split at h
        · next v hv =>
          split at h
          · next hl =>
            obtain ⟨rfl, e1⟩ := hl
            cases h
            have hq' : cs[o]? = some (.inl (w.1, q.2)) := by rw [hq, ← e1]
            exact sc_keep rfl rfl (fun E d mcT msT n0 csF cells slots k => sd_get hd hw hq' hv k)
          · cases h
        · cases h
      · cases h
    · cases h
  · split at h
    · next x i o r =>
      split at h
      · next q hq =>
        split at h
        · next hl =>
          obtain ⟨rfl, e1, hi⟩ := hl
          cases h
          have hq' : cs[o]? = some (.inr (0, q.2.1, q.2.2)) := by rw [hq, ← e1]
          exact sc_keep (by simp) (sc_sz_set hq' rfl) (fun E d mcT msT n0 csF cells slots k => sd_iastore hd hq' (sw_inb_sp hi) k)
        · cases h
      · cases h
    · cases h
  · split at h
    · next x i o r =>
      split at h
      · next q hq =>
        split at h
        · next hl =>
          obtain ⟨rfl, e1, hi⟩ := hl
          cases h
          have hq' : cs[o]? = some (.inr (2, q.2.1, q.2.2)) := by rw [hq, ← e1]
          exact sc_keep (by simp) (sc_sz_set hq' rfl) (fun E d mcT msT n0 csF cells slots k => sd_castore hd hq' (sw_inb_sp hi) k)
        · cases h
      · cases h
    · cases h
  · split at h
    · next v i o r =>
      split at h
      · next q w hq hw =>
        split at h
        · next hl =>
          obtain ⟨rfl, e1, e2, hi⟩ := hl
          cases h
          have hq' : cs[o]? = some (.inr (4, q.2.1, q.2.2)) := by rw [hq, ← e1]
          have hw' : cs[v]? = some (.inl (8, w.2)) := by rw [hw, ← e2]
          exact sc_keep (by simp) (sc_sz_set hq' rfl) (fun E d mcT msT n0 csF cells slots k => sd_aastore hd hq' hw' (sw_inb_sp hi) k)
        · cases h
      · cases h
    · cases h
  · cases h

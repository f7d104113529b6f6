section
-- ===== PART A: goes FIRST, ahead of the names: the tables' words, and 'selects' of the private methods out of them =====
/-- a private method of a class that the tables say can be made, by its rows of tables_1 -/
def lw_okq (q : MethodName × Nat) : Prop := (q.1.cls ≠ "java/lang/invoke/MethodHandle" ∧ q.1.cls ≠ "java/lang/invoke/VarHandle") ∧ Cond.instantiable q.1.cls q.2 ∈ tables_1 ∧ Cond.privateMethod q.1 ∈ tables_1 ∧ Cond.instanceMethod q.1 ∈ tables_1
theorem lw_p0 : lw_okq (⟨"StrayWool", "refuse", "(I)I"⟩, 14) := ⟨⟨by decide +kernel, by decide +kernel⟩, List.mem_of_getElem? (i := 22) (by decide +kernel), List.mem_of_getElem? (i := 476) (by decide +kernel), List.mem_of_getElem? (i := 477) (by decide +kernel)⟩
theorem lw_p1 : lw_okq (⟨"StrayWool", "putBytes", "(I)V"⟩, 14) := ⟨⟨by decide +kernel, by decide +kernel⟩, List.mem_of_getElem? (i := 22) (by decide +kernel), List.mem_of_getElem? (i := 480) (by decide +kernel), List.mem_of_getElem? (i := 481) (by decide +kernel)⟩
theorem lw_p2 : lw_okq (⟨"StrayWool", "takeTape", "()I"⟩, 14) := ⟨⟨by decide +kernel, by decide +kernel⟩, List.mem_of_getElem? (i := 22) (by decide +kernel), List.mem_of_getElem? (i := 492) (by decide +kernel), List.mem_of_getElem? (i := 493) (by decide +kernel)⟩
theorem lw_p3 : lw_okq (⟨"StrayWool$Parser", "statement", "()Z"⟩, 4) := ⟨⟨by decide +kernel, by decide +kernel⟩, List.mem_of_getElem? (i := 210) (by decide +kernel), List.mem_of_getElem? (i := 577) (by decide +kernel), List.mem_of_getElem? (i := 578) (by decide +kernel)⟩
theorem lw_p4 : lw_okq (⟨"StrayWool$Parser", "fieldStatement", "()Z"⟩, 4) := ⟨⟨by decide +kernel, by decide +kernel⟩, List.mem_of_getElem? (i := 210) (by decide +kernel), List.mem_of_getElem? (i := 581) (by decide +kernel), List.mem_of_getElem? (i := 582) (by decide +kernel)⟩
theorem lw_p5 : lw_okq (⟨"StrayWool$Parser", "newName", "()I"⟩, 4) := ⟨⟨by decide +kernel, by decide +kernel⟩, List.mem_of_getElem? (i := 210) (by decide +kernel), List.mem_of_getElem? (i := 586) (by decide +kernel), List.mem_of_getElem? (i := 587) (by decide +kernel)⟩
theorem lw_p6 : lw_okq (⟨"StrayWool$Parser", "gapStatement", "()Z"⟩, 4) := ⟨⟨by decide +kernel, by decide +kernel⟩, List.mem_of_getElem? (i := 210) (by decide +kernel), List.mem_of_getElem? (i := 611) (by decide +kernel), List.mem_of_getElem? (i := 612) (by decide +kernel)⟩
theorem lw_p7 : lw_okq (⟨"StrayWool$Parser", "knownField", "(I)I"⟩, 4) := ⟨⟨by decide +kernel, by decide +kernel⟩, List.mem_of_getElem? (i := 210) (by decide +kernel), List.mem_of_getElem? (i := 615) (by decide +kernel), List.mem_of_getElem? (i := 616) (by decide +kernel)⟩
theorem lw_p8 : lw_okq (⟨"StrayWool$Parser", "shutStatement", "()Z"⟩, 4) := ⟨⟨by decide +kernel, by decide +kernel⟩, List.mem_of_getElem? (i := 210) (by decide +kernel), List.mem_of_getElem? (i := 619) (by decide +kernel), List.mem_of_getElem? (i := 620) (by decide +kernel)⟩
theorem lw_p9 : lw_okq (⟨"StrayWool$Parser", "sheepStatement", "()Z"⟩, 4) := ⟨⟨by decide +kernel, by decide +kernel⟩, List.mem_of_getElem? (i := 210) (by decide +kernel), List.mem_of_getElem? (i := 623) (by decide +kernel), List.mem_of_getElem? (i := 624) (by decide +kernel)⟩
theorem lw_p10 : lw_okq (⟨"StrayWool$Parser", "beginFormula", "(I)Z"⟩, 4) := ⟨⟨by decide +kernel, by decide +kernel⟩, List.mem_of_getElem? (i := 210) (by decide +kernel), List.mem_of_getElem? (i := 627) (by decide +kernel), List.mem_of_getElem? (i := 628) (by decide +kernel)⟩
theorem lw_p11 : lw_okq (⟨"StrayWool$Parser", "sum", "(I)Z"⟩, 4) := ⟨⟨by decide +kernel, by decide +kernel⟩, List.mem_of_getElem? (i := 210) (by decide +kernel), List.mem_of_getElem? (i := 631) (by decide +kernel), List.mem_of_getElem? (i := 632) (by decide +kernel)⟩
theorem lw_p12 : lw_okq (⟨"StrayWool$Parser", "product", "(I)Z"⟩, 4) := ⟨⟨by decide +kernel, by decide +kernel⟩, List.mem_of_getElem? (i := 210) (by decide +kernel), List.mem_of_getElem? (i := 635) (by decide +kernel), List.mem_of_getElem? (i := 636) (by decide +kernel)⟩
theorem lw_p13 : lw_okq (⟨"StrayWool$Parser", "part", "(I)Z"⟩, 4) := ⟨⟨by decide +kernel, by decide +kernel⟩, List.mem_of_getElem? (i := 210) (by decide +kernel), List.mem_of_getElem? (i := 639) (by decide +kernel), List.mem_of_getElem? (i := 640) (by decide +kernel)⟩
theorem lw_p14 : lw_okq (⟨"StrayWool$Parser", "opens", "(I)Z"⟩, 4) := ⟨⟨by decide +kernel, by decide +kernel⟩, List.mem_of_getElem? (i := 210) (by decide +kernel), List.mem_of_getElem? (i := 644) (by decide +kernel), List.mem_of_getElem? (i := 645) (by decide +kernel)⟩
theorem lw_p15 : lw_okq (⟨"StrayWool$Parser", "endFormula", "(I)Z"⟩, 4) := ⟨⟨by decide +kernel, by decide +kernel⟩, List.mem_of_getElem? (i := 210) (by decide +kernel), List.mem_of_getElem? (i := 651) (by decide +kernel), List.mem_of_getElem? (i := 652) (by decide +kernel)⟩
def lw_privs_1 : List (MethodName × Nat) := [(⟨"StrayWool", "refuse", "(I)I"⟩, 14), (⟨"StrayWool", "putBytes", "(I)V"⟩, 14), (⟨"StrayWool", "takeTape", "()I"⟩, 14), (⟨"StrayWool$Parser", "statement", "()Z"⟩, 4), (⟨"StrayWool$Parser", "fieldStatement", "()Z"⟩, 4), (⟨"StrayWool$Parser", "newName", "()I"⟩, 4), (⟨"StrayWool$Parser", "gapStatement", "()Z"⟩, 4), (⟨"StrayWool$Parser", "knownField", "(I)I"⟩, 4), (⟨"StrayWool$Parser", "shutStatement", "()Z"⟩, 4), (⟨"StrayWool$Parser", "sheepStatement", "()Z"⟩, 4), (⟨"StrayWool$Parser", "beginFormula", "(I)Z"⟩, 4), (⟨"StrayWool$Parser", "sum", "(I)Z"⟩, 4), (⟨"StrayWool$Parser", "product", "(I)Z"⟩, 4), (⟨"StrayWool$Parser", "part", "(I)Z"⟩, 4), (⟨"StrayWool$Parser", "opens", "(I)Z"⟩, 4), (⟨"StrayWool$Parser", "endFormula", "(I)Z"⟩, 4)]
theorem lw_r1 : ∀ q ∈ lw_privs_1, lw_okq q := List.forall_mem_cons.mpr ⟨lw_p0, List.forall_mem_cons.mpr ⟨lw_p1, List.forall_mem_cons.mpr ⟨lw_p2, List.forall_mem_cons.mpr ⟨lw_p3, List.forall_mem_cons.mpr ⟨lw_p4, List.forall_mem_cons.mpr ⟨lw_p5, List.forall_mem_cons.mpr ⟨lw_p6, List.forall_mem_cons.mpr ⟨lw_p7, List.forall_mem_cons.mpr ⟨lw_p8, List.forall_mem_cons.mpr ⟨lw_p9, List.forall_mem_cons.mpr ⟨lw_p10, List.forall_mem_cons.mpr ⟨lw_p11, List.forall_mem_cons.mpr ⟨lw_p12, List.forall_mem_cons.mpr ⟨lw_p13, List.forall_mem_cons.mpr ⟨lw_p14, List.forall_mem_cons.mpr ⟨lw_p15, fun _ h => absurd h List.not_mem_nil⟩⟩⟩⟩⟩⟩⟩⟩⟩⟩⟩⟩⟩⟩⟩⟩
theorem lw_p16 : lw_okq (⟨"StrayWool$Parser", "test", "(I)Z"⟩, 4) := ⟨⟨by decide +kernel, by decide +kernel⟩, List.mem_of_getElem? (i := 210) (by decide +kernel), List.mem_of_getElem? (i := 655) (by decide +kernel), List.mem_of_getElem? (i := 656) (by decide +kernel)⟩
theorem lw_p17 : lw_okq (⟨"StrayWool$Parser", "both", "(I)Z"⟩, 4) := ⟨⟨by decide +kernel, by decide +kernel⟩, List.mem_of_getElem? (i := 210) (by decide +kernel), List.mem_of_getElem? (i := 659) (by decide +kernel), List.mem_of_getElem? (i := 660) (by decide +kernel)⟩
theorem lw_p18 : lw_okq (⟨"StrayWool$Parser", "fact", "(I)Z"⟩, 4) := ⟨⟨by decide +kernel, by decide +kernel⟩, List.mem_of_getElem? (i := 210) (by decide +kernel), List.mem_of_getElem? (i := 663) (by decide +kernel), List.mem_of_getElem? (i := 664) (by decide +kernel)⟩
theorem lw_p19 : lw_okq (⟨"StrayWool$Parser", "stormStatement", "()Z"⟩, 4) := ⟨⟨by decide +kernel, by decide +kernel⟩, List.mem_of_getElem? (i := 210) (by decide +kernel), List.mem_of_getElem? (i := 670) (by decide +kernel), List.mem_of_getElem? (i := 671) (by decide +kernel)⟩
theorem lw_p20 : lw_okq (⟨"StrayWool", "isField", "(I)Z"⟩, 14) := ⟨⟨by decide +kernel, by decide +kernel⟩, List.mem_of_getElem? (i := 22) (by decide +kernel), List.mem_of_getElem? (i := 707) (by decide +kernel), List.mem_of_getElem? (i := 708) (by decide +kernel)⟩
theorem lw_p21 : lw_okq (⟨"StrayWool", "isSheep", "(I)Z"⟩, 14) := ⟨⟨by decide +kernel, by decide +kernel⟩, List.mem_of_getElem? (i := 22) (by decide +kernel), List.mem_of_getElem? (i := 711) (by decide +kernel), List.mem_of_getElem? (i := 712) (by decide +kernel)⟩
theorem lw_p22 : lw_okq (⟨"StrayWool", "isGap", "(I)Z"⟩, 14) := ⟨⟨by decide +kernel, by decide +kernel⟩, List.mem_of_getElem? (i := 22) (by decide +kernel), List.mem_of_getElem? (i := 723) (by decide +kernel), List.mem_of_getElem? (i := 724) (by decide +kernel)⟩
theorem lw_p23 : lw_okq (⟨"StrayWool", "canCome", "(II)Z"⟩, 14) := ⟨⟨by decide +kernel, by decide +kernel⟩, List.mem_of_getElem? (i := 22) (by decide +kernel), List.mem_of_getElem? (i := 816) (by decide +kernel), List.mem_of_getElem? (i := 817) (by decide +kernel)⟩
theorem lw_p24 : lw_okq (⟨"StrayWool$Foresight", "tryDays", "(IIIII)V"⟩, 12) := ⟨⟨by decide +kernel, by decide +kernel⟩, List.mem_of_getElem? (i := 343) (by decide +kernel), List.mem_of_getElem? (i := 860) (by decide +kernel), List.mem_of_getElem? (i := 861) (by decide +kernel)⟩
theorem lw_p25 : lw_okq (⟨"StrayWool$Foresight", "tryThrough", "(IIIIII)V"⟩, 12) := ⟨⟨by decide +kernel, by decide +kernel⟩, List.mem_of_getElem? (i := 343) (by decide +kernel), List.mem_of_getElem? (i := 871) (by decide +kernel), List.mem_of_getElem? (i := 872) (by decide +kernel)⟩
theorem lw_p26 : lw_okq (⟨"StrayWool", "stormComes", "()Z"⟩, 14) := ⟨⟨by decide +kernel, by decide +kernel⟩, List.mem_of_getElem? (i := 22) (by decide +kernel), List.mem_of_getElem? (i := 1037) (by decide +kernel), List.mem_of_getElem? (i := 1038) (by decide +kernel)⟩
theorem lw_p27 : lw_okq (⟨"StrayWool", "draw", "(I)I"⟩, 14) := ⟨⟨by decide +kernel, by decide +kernel⟩, List.mem_of_getElem? (i := 22) (by decide +kernel), List.mem_of_getElem? (i := 1041) (by decide +kernel), List.mem_of_getElem? (i := 1042) (by decide +kernel)⟩
theorem lw_p28 : lw_okq (⟨"StrayWoolModel", "look", "()I"⟩, 106) := ⟨⟨by decide +kernel, by decide +kernel⟩, List.mem_of_getElem? (i := 1124) (by decide +kernel), List.mem_of_getElem? (i := 1462) (by decide +kernel), List.mem_of_getElem? (i := 1463) (by decide +kernel)⟩
theorem lw_p29 : lw_okq (⟨"StrayWoolModel", "statementTold", "()V"⟩, 106) := ⟨⟨by decide +kernel, by decide +kernel⟩, List.mem_of_getElem? (i := 1124) (by decide +kernel), List.mem_of_getElem? (i := 1466) (by decide +kernel), List.mem_of_getElem? (i := 1467) (by decide +kernel)⟩
theorem lw_p30 : lw_okq (⟨"StrayWoolModel", "fail", "(II)V"⟩, 106) := ⟨⟨by decide +kernel, by decide +kernel⟩, List.mem_of_getElem? (i := 1124) (by decide +kernel), List.mem_of_getElem? (i := 1470) (by decide +kernel), List.mem_of_getElem? (i := 1471) (by decide +kernel)⟩
theorem lw_p31 : lw_okq (⟨"StrayWoolModel", "takes", "([C)Z"⟩, 106) := ⟨⟨by decide +kernel, by decide +kernel⟩, List.mem_of_getElem? (i := 1124) (by decide +kernel), List.mem_of_getElem? (i := 1474) (by decide +kernel), List.mem_of_getElem? (i := 1475) (by decide +kernel)⟩
def lw_privs_2 : List (MethodName × Nat) := [(⟨"StrayWool$Parser", "test", "(I)Z"⟩, 4), (⟨"StrayWool$Parser", "both", "(I)Z"⟩, 4), (⟨"StrayWool$Parser", "fact", "(I)Z"⟩, 4), (⟨"StrayWool$Parser", "stormStatement", "()Z"⟩, 4), (⟨"StrayWool", "isField", "(I)Z"⟩, 14), (⟨"StrayWool", "isSheep", "(I)Z"⟩, 14), (⟨"StrayWool", "isGap", "(I)Z"⟩, 14), (⟨"StrayWool", "canCome", "(II)Z"⟩, 14), (⟨"StrayWool$Foresight", "tryDays", "(IIIII)V"⟩, 12), (⟨"StrayWool$Foresight", "tryThrough", "(IIIIII)V"⟩, 12), (⟨"StrayWool", "stormComes", "()Z"⟩, 14), (⟨"StrayWool", "draw", "(I)I"⟩, 14), (⟨"StrayWoolModel", "look", "()I"⟩, 106), (⟨"StrayWoolModel", "statementTold", "()V"⟩, 106), (⟨"StrayWoolModel", "fail", "(II)V"⟩, 106), (⟨"StrayWoolModel", "takes", "([C)Z"⟩, 106)]
theorem lw_r2 : ∀ q ∈ lw_privs_2, lw_okq q := List.forall_mem_cons.mpr ⟨lw_p16, List.forall_mem_cons.mpr ⟨lw_p17, List.forall_mem_cons.mpr ⟨lw_p18, List.forall_mem_cons.mpr ⟨lw_p19, List.forall_mem_cons.mpr ⟨lw_p20, List.forall_mem_cons.mpr ⟨lw_p21, List.forall_mem_cons.mpr ⟨lw_p22, List.forall_mem_cons.mpr ⟨lw_p23, List.forall_mem_cons.mpr ⟨lw_p24, List.forall_mem_cons.mpr ⟨lw_p25, List.forall_mem_cons.mpr ⟨lw_p26, List.forall_mem_cons.mpr ⟨lw_p27, List.forall_mem_cons.mpr ⟨lw_p28, List.forall_mem_cons.mpr ⟨lw_p29, List.forall_mem_cons.mpr ⟨lw_p30, List.forall_mem_cons.mpr ⟨lw_p31, fun _ h => absurd h List.not_mem_nil⟩⟩⟩⟩⟩⟩⟩⟩⟩⟩⟩⟩⟩⟩⟩⟩
theorem lw_p32 : lw_okq (⟨"StrayWoolModel", "isHere", "([C)Z"⟩, 106) := ⟨⟨by decide +kernel, by decide +kernel⟩, List.mem_of_getElem? (i := 1124) (by decide +kernel), List.mem_of_getElem? (i := 1478) (by decide +kernel), List.mem_of_getElem? (i := 1479) (by decide +kernel)⟩
theorem lw_p33 : lw_okq (⟨"StrayWoolModel", "fieldTold", "(I)V"⟩, 106) := ⟨⟨by decide +kernel, by decide +kernel⟩, List.mem_of_getElem? (i := 1124) (by decide +kernel), List.mem_of_getElem? (i := 1485) (by decide +kernel), List.mem_of_getElem? (i := 1486) (by decide +kernel)⟩
theorem lw_p34 : lw_okq (⟨"StrayWoolModel", "isFull", "(III)Z"⟩, 106) := ⟨⟨by decide +kernel, by decide +kernel⟩, List.mem_of_getElem? (i := 1124) (by decide +kernel), List.mem_of_getElem? (i := 1489) (by decide +kernel), List.mem_of_getElem? (i := 1490) (by decide +kernel)⟩
theorem lw_p35 : lw_okq (⟨"StrayWoolModel", "newName", "()J"⟩, 106) := ⟨⟨by decide +kernel, by decide +kernel⟩, List.mem_of_getElem? (i := 1124) (by decide +kernel), List.mem_of_getElem? (i := 1493) (by decide +kernel), List.mem_of_getElem? (i := 1494) (by decide +kernel)⟩
theorem lw_p36 : lw_okq (⟨"StrayWoolModel", "name", "()J"⟩, 106) := ⟨⟨by decide +kernel, by decide +kernel⟩, List.mem_of_getElem? (i := 1124) (by decide +kernel), List.mem_of_getElem? (i := 1497) (by decide +kernel), List.mem_of_getElem? (i := 1498) (by decide +kernel)⟩
theorem lw_p37 : lw_okq (⟨"StrayWoolModel", "isOwnHere", "()Z"⟩, 106) := ⟨⟨by decide +kernel, by decide +kernel⟩, List.mem_of_getElem? (i := 1124) (by decide +kernel), List.mem_of_getElem? (i := 1501) (by decide +kernel), List.mem_of_getElem? (i := 1502) (by decide +kernel)⟩
theorem lw_p38 : lw_okq (⟨"StrayWoolModel", "asks", "([C)V"⟩, 106) := ⟨⟨by decide +kernel, by decide +kernel⟩, List.mem_of_getElem? (i := 1124) (by decide +kernel), List.mem_of_getElem? (i := 1507) (by decide +kernel), List.mem_of_getElem? (i := 1508) (by decide +kernel)⟩
theorem lw_p39 : lw_okq (⟨"StrayWoolModel", "number", "(II)I"⟩, 106) := ⟨⟨by decide +kernel, by decide +kernel⟩, List.mem_of_getElem? (i := 1124) (by decide +kernel), List.mem_of_getElem? (i := 1511) (by decide +kernel), List.mem_of_getElem? (i := 1512) (by decide +kernel)⟩
theorem lw_p40 : lw_okq (⟨"StrayWoolModel", "gapTold", "(I)V"⟩, 106) := ⟨⟨by decide +kernel, by decide +kernel⟩, List.mem_of_getElem? (i := 1124) (by decide +kernel), List.mem_of_getElem? (i := 1521) (by decide +kernel), List.mem_of_getElem? (i := 1522) (by decide +kernel)⟩
theorem lw_p41 : lw_okq (⟨"StrayWoolModel", "fieldNamed", "(I)I"⟩, 106) := ⟨⟨by decide +kernel, by decide +kernel⟩, List.mem_of_getElem? (i := 1124) (by decide +kernel), List.mem_of_getElem? (i := 1525) (by decide +kernel), List.mem_of_getElem? (i := 1526) (by decide +kernel)⟩
theorem lw_p42 : lw_okq (⟨"StrayWoolModel", "shutTold", "()V"⟩, 106) := ⟨⟨by decide +kernel, by decide +kernel⟩, List.mem_of_getElem? (i := 1124) (by decide +kernel), List.mem_of_getElem? (i := 1529) (by decide +kernel), List.mem_of_getElem? (i := 1530) (by decide +kernel)⟩
theorem lw_p43 : lw_okq (⟨"StrayWoolModel", "sheepTold", "(I)V"⟩, 106) := ⟨⟨by decide +kernel, by decide +kernel⟩, List.mem_of_getElem? (i := 1124) (by decide +kernel), List.mem_of_getElem? (i := 1533) (by decide +kernel), List.mem_of_getElem? (i := 1534) (by decide +kernel)⟩
theorem lw_p44 : lw_okq (⟨"StrayWoolModel", "codesTold", "(II)V"⟩, 106) := ⟨⟨by decide +kernel, by decide +kernel⟩, List.mem_of_getElem? (i := 1124) (by decide +kernel), List.mem_of_getElem? (i := 1537) (by decide +kernel), List.mem_of_getElem? (i := 1538) (by decide +kernel)⟩
theorem lw_p45 : lw_okq (⟨"StrayWoolModel", "qTest", "()V"⟩, 106) := ⟨⟨by decide +kernel, by decide +kernel⟩, List.mem_of_getElem? (i := 1124) (by decide +kernel), List.mem_of_getElem? (i := 1541) (by decide +kernel), List.mem_of_getElem? (i := 1542) (by decide +kernel)⟩
theorem lw_p46 : lw_okq (⟨"StrayWoolModel", "qOpens", "(II)V"⟩, 106) := ⟨⟨by decide +kernel, by decide +kernel⟩, List.mem_of_getElem? (i := 1124) (by decide +kernel), List.mem_of_getElem? (i := 1545) (by decide +kernel), List.mem_of_getElem? (i := 1546) (by decide +kernel)⟩
theorem lw_p47 : lw_okq (⟨"StrayWoolModel", "qFact", "()V"⟩, 106) := ⟨⟨by decide +kernel, by decide +kernel⟩, List.mem_of_getElem? (i := 1124) (by decide +kernel), List.mem_of_getElem? (i := 1549) (by decide +kernel), List.mem_of_getElem? (i := 1550) (by decide +kernel)⟩
def lw_privs_3 : List (MethodName × Nat) := [(⟨"StrayWoolModel", "isHere", "([C)Z"⟩, 106), (⟨"StrayWoolModel", "fieldTold", "(I)V"⟩, 106), (⟨"StrayWoolModel", "isFull", "(III)Z"⟩, 106), (⟨"StrayWoolModel", "newName", "()J"⟩, 106), (⟨"StrayWoolModel", "name", "()J"⟩, 106), (⟨"StrayWoolModel", "isOwnHere", "()Z"⟩, 106), (⟨"StrayWoolModel", "asks", "([C)V"⟩, 106), (⟨"StrayWoolModel", "number", "(II)I"⟩, 106), (⟨"StrayWoolModel", "gapTold", "(I)V"⟩, 106), (⟨"StrayWoolModel", "fieldNamed", "(I)I"⟩, 106), (⟨"StrayWoolModel", "shutTold", "()V"⟩, 106), (⟨"StrayWoolModel", "sheepTold", "(I)V"⟩, 106), (⟨"StrayWoolModel", "codesTold", "(II)V"⟩, 106), (⟨"StrayWoolModel", "qTest", "()V"⟩, 106), (⟨"StrayWoolModel", "qOpens", "(II)V"⟩, 106), (⟨"StrayWoolModel", "qFact", "()V"⟩, 106)]
theorem lw_r3 : ∀ q ∈ lw_privs_3, lw_okq q := List.forall_mem_cons.mpr ⟨lw_p32, List.forall_mem_cons.mpr ⟨lw_p33, List.forall_mem_cons.mpr ⟨lw_p34, List.forall_mem_cons.mpr ⟨lw_p35, List.forall_mem_cons.mpr ⟨lw_p36, List.forall_mem_cons.mpr ⟨lw_p37, List.forall_mem_cons.mpr ⟨lw_p38, List.forall_mem_cons.mpr ⟨lw_p39, List.forall_mem_cons.mpr ⟨lw_p40, List.forall_mem_cons.mpr ⟨lw_p41, List.forall_mem_cons.mpr ⟨lw_p42, List.forall_mem_cons.mpr ⟨lw_p43, List.forall_mem_cons.mpr ⟨lw_p44, List.forall_mem_cons.mpr ⟨lw_p45, List.forall_mem_cons.mpr ⟨lw_p46, List.forall_mem_cons.mpr ⟨lw_p47, fun _ h => absurd h List.not_mem_nil⟩⟩⟩⟩⟩⟩⟩⟩⟩⟩⟩⟩⟩⟩⟩⟩
theorem lw_p48 : lw_okq (⟨"StrayWoolModel", "qCode", "(I)V"⟩, 106) := ⟨⟨by decide +kernel, by decide +kernel⟩, List.mem_of_getElem? (i := 1124) (by decide +kernel), List.mem_of_getElem? (i := 1553) (by decide +kernel), List.mem_of_getElem? (i := 1554) (by decide +kernel)⟩
theorem lw_p49 : lw_okq (⟨"StrayWoolModel", "qSums", "()V"⟩, 106) := ⟨⟨by decide +kernel, by decide +kernel⟩, List.mem_of_getElem? (i := 1124) (by decide +kernel), List.mem_of_getElem? (i := 1557) (by decide +kernel), List.mem_of_getElem? (i := 1558) (by decide +kernel)⟩
theorem lw_p50 : lw_okq (⟨"StrayWoolModel", "qPartTold", "()V"⟩, 106) := ⟨⟨by decide +kernel, by decide +kernel⟩, List.mem_of_getElem? (i := 1124) (by decide +kernel), List.mem_of_getElem? (i := 1561) (by decide +kernel), List.mem_of_getElem? (i := 1562) (by decide +kernel)⟩
theorem lw_p51 : lw_okq (⟨"StrayWoolModel", "qWordOf", "(II)I"⟩, 106) := ⟨⟨by decide +kernel, by decide +kernel⟩, List.mem_of_getElem? (i := 1124) (by decide +kernel), List.mem_of_getElem? (i := 1565) (by decide +kernel), List.mem_of_getElem? (i := 1566) (by decide +kernel)⟩
theorem lw_p52 : lw_okq (⟨"StrayWoolModel", "qWordHere", "()I"⟩, 106) := ⟨⟨by decide +kernel, by decide +kernel⟩, List.mem_of_getElem? (i := 1124) (by decide +kernel), List.mem_of_getElem? (i := 1569) (by decide +kernel), List.mem_of_getElem? (i := 1570) (by decide +kernel)⟩
theorem lw_p53 : lw_okq (⟨"StrayWoolModel", "isAllowed", "(I)Z"⟩, 106) := ⟨⟨by decide +kernel, by decide +kernel⟩, List.mem_of_getElem? (i := 1124) (by decide +kernel), List.mem_of_getElem? (i := 1573) (by decide +kernel), List.mem_of_getElem? (i := 1574) (by decide +kernel)⟩
theorem lw_p54 : lw_okq (⟨"StrayWoolModel", "asksSign", "(I)V"⟩, 106) := ⟨⟨by decide +kernel, by decide +kernel⟩, List.mem_of_getElem? (i := 1124) (by decide +kernel), List.mem_of_getElem? (i := 1579) (by decide +kernel), List.mem_of_getElem? (i := 1580) (by decide +kernel)⟩
theorem lw_p55 : lw_okq (⟨"StrayWoolModel", "takesSign", "(I)Z"⟩, 106) := ⟨⟨by decide +kernel, by decide +kernel⟩, List.mem_of_getElem? (i := 1124) (by decide +kernel), List.mem_of_getElem? (i := 1583) (by decide +kernel), List.mem_of_getElem? (i := 1584) (by decide +kernel)⟩
theorem lw_p56 : lw_okq (⟨"StrayWoolModel", "qAsksWord", "(I)V"⟩, 106) := ⟨⟨by decide +kernel, by decide +kernel⟩, List.mem_of_getElem? (i := 1124) (by decide +kernel), List.mem_of_getElem? (i := 1587) (by decide +kernel), List.mem_of_getElem? (i := 1588) (by decide +kernel)⟩
theorem lw_p57 : lw_okq (⟨"StrayWoolModel", "qEndsPart", "()V"⟩, 106) := ⟨⟨by decide +kernel, by decide +kernel⟩, List.mem_of_getElem? (i := 1124) (by decide +kernel), List.mem_of_getElem? (i := 1591) (by decide +kernel), List.mem_of_getElem? (i := 1592) (by decide +kernel)⟩
theorem lw_p58 : lw_okq (⟨"StrayWoolModel", "qDrops", "()V"⟩, 106) := ⟨⟨by decide +kernel, by decide +kernel⟩, List.mem_of_getElem? (i := 1124) (by decide +kernel), List.mem_of_getElem? (i := 1595) (by decide +kernel), List.mem_of_getElem? (i := 1596) (by decide +kernel)⟩
theorem lw_p59 : lw_okq (⟨"StrayWoolModel", "qGoesOn", "()Z"⟩, 106) := ⟨⟨by decide +kernel, by decide +kernel⟩, List.mem_of_getElem? (i := 1124) (by decide +kernel), List.mem_of_getElem? (i := 1599) (by decide +kernel), List.mem_of_getElem? (i := 1600) (by decide +kernel)⟩
theorem lw_p60 : lw_okq (⟨"StrayWoolModel", "qBracket", "()I"⟩, 106) := ⟨⟨by decide +kernel, by decide +kernel⟩, List.mem_of_getElem? (i := 1124) (by decide +kernel), List.mem_of_getElem? (i := 1603) (by decide +kernel), List.mem_of_getElem? (i := 1604) (by decide +kernel)⟩
theorem lw_p61 : lw_okq (⟨"StrayWoolModel", "qDropsToBracket", "()V"⟩, 106) := ⟨⟨by decide +kernel, by decide +kernel⟩, List.mem_of_getElem? (i := 1124) (by decide +kernel), List.mem_of_getElem? (i := 1610) (by decide +kernel), List.mem_of_getElem? (i := 1611) (by decide +kernel)⟩
theorem lw_p62 : lw_okq (⟨"StrayWoolModel", "qIsOn", "(I)Z"⟩, 106) := ⟨⟨by decide +kernel, by decide +kernel⟩, List.mem_of_getElem? (i := 1124) (by decide +kernel), List.mem_of_getElem? (i := 1614) (by decide +kernel), List.mem_of_getElem? (i := 1615) (by decide +kernel)⟩
theorem lw_p63 : lw_okq (⟨"StrayWoolModel", "qDropsNots", "()V"⟩, 106) := ⟨⟨by decide +kernel, by decide +kernel⟩, List.mem_of_getElem? (i := 1124) (by decide +kernel), List.mem_of_getElem? (i := 1618) (by decide +kernel), List.mem_of_getElem? (i := 1619) (by decide +kernel)⟩
def lw_privs_4 : List (MethodName × Nat) := [(⟨"StrayWoolModel", "qCode", "(I)V"⟩, 106), (⟨"StrayWoolModel", "qSums", "()V"⟩, 106), (⟨"StrayWoolModel", "qPartTold", "()V"⟩, 106), (⟨"StrayWoolModel", "qWordOf", "(II)I"⟩, 106), (⟨"StrayWoolModel", "qWordHere", "()I"⟩, 106), (⟨"StrayWoolModel", "isAllowed", "(I)Z"⟩, 106), (⟨"StrayWoolModel", "asksSign", "(I)V"⟩, 106), (⟨"StrayWoolModel", "takesSign", "(I)Z"⟩, 106), (⟨"StrayWoolModel", "qAsksWord", "(I)V"⟩, 106), (⟨"StrayWoolModel", "qEndsPart", "()V"⟩, 106), (⟨"StrayWoolModel", "qDrops", "()V"⟩, 106), (⟨"StrayWoolModel", "qGoesOn", "()Z"⟩, 106), (⟨"StrayWoolModel", "qBracket", "()I"⟩, 106), (⟨"StrayWoolModel", "qDropsToBracket", "()V"⟩, 106), (⟨"StrayWoolModel", "qIsOn", "(I)Z"⟩, 106), (⟨"StrayWoolModel", "qDropsNots", "()V"⟩, 106)]
theorem lw_r4 : ∀ q ∈ lw_privs_4, lw_okq q := List.forall_mem_cons.mpr ⟨lw_p48, List.forall_mem_cons.mpr ⟨lw_p49, List.forall_mem_cons.mpr ⟨lw_p50, List.forall_mem_cons.mpr ⟨lw_p51, List.forall_mem_cons.mpr ⟨lw_p52, List.forall_mem_cons.mpr ⟨lw_p53, List.forall_mem_cons.mpr ⟨lw_p54, List.forall_mem_cons.mpr ⟨lw_p55, List.forall_mem_cons.mpr ⟨lw_p56, List.forall_mem_cons.mpr ⟨lw_p57, List.forall_mem_cons.mpr ⟨lw_p58, List.forall_mem_cons.mpr ⟨lw_p59, List.forall_mem_cons.mpr ⟨lw_p60, List.forall_mem_cons.mpr ⟨lw_p61, List.forall_mem_cons.mpr ⟨lw_p62, List.forall_mem_cons.mpr ⟨lw_p63, fun _ h => absurd h List.not_mem_nil⟩⟩⟩⟩⟩⟩⟩⟩⟩⟩⟩⟩⟩⟩⟩⟩
theorem lw_p64 : lw_okq (⟨"StrayWoolModel", "qGoesOnTest", "()Z"⟩, 106) := ⟨⟨by decide +kernel, by decide +kernel⟩, List.mem_of_getElem? (i := 1124) (by decide +kernel), List.mem_of_getElem? (i := 1622) (by decide +kernel), List.mem_of_getElem? (i := 1623) (by decide +kernel)⟩
theorem lw_p65 : lw_okq (⟨"StrayWoolModel", "qHasSquare", "()Z"⟩, 106) := ⟨⟨by decide +kernel, by decide +kernel⟩, List.mem_of_getElem? (i := 1124) (by decide +kernel), List.mem_of_getElem? (i := 1626) (by decide +kernel), List.mem_of_getElem? (i := 1627) (by decide +kernel)⟩
theorem lw_p66 : lw_okq (⟨"StrayWoolModel", "stands", "()V"⟩, 106) := ⟨⟨by decide +kernel, by decide +kernel⟩, List.mem_of_getElem? (i := 1124) (by decide +kernel), List.mem_of_getElem? (i := 1630) (by decide +kernel), List.mem_of_getElem? (i := 1631) (by decide +kernel)⟩
theorem lw_p67 : lw_okq (⟨"StrayWoolModel", "fieldMany", "()I"⟩, 106) := ⟨⟨by decide +kernel, by decide +kernel⟩, List.mem_of_getElem? (i := 1124) (by decide +kernel), List.mem_of_getElem? (i := 1642) (by decide +kernel), List.mem_of_getElem? (i := 1643) (by decide +kernel)⟩
theorem lw_p68 : lw_okq (⟨"StrayWoolModel", "gapMany", "()I"⟩, 106) := ⟨⟨by decide +kernel, by decide +kernel⟩, List.mem_of_getElem? (i := 1124) (by decide +kernel), List.mem_of_getElem? (i := 1646) (by decide +kernel), List.mem_of_getElem? (i := 1647) (by decide +kernel)⟩
theorem lw_p69 : lw_okq (⟨"StrayWoolModel", "sheepMany", "()I"⟩, 106) := ⟨⟨by decide +kernel, by decide +kernel⟩, List.mem_of_getElem? (i := 1124) (by decide +kernel), List.mem_of_getElem? (i := 1650) (by decide +kernel), List.mem_of_getElem? (i := 1651) (by decide +kernel)⟩
theorem lw_p70 : lw_okq (⟨"StrayWoolModel", "openMany", "()I"⟩, 106) := ⟨⟨by decide +kernel, by decide +kernel⟩, List.mem_of_getElem? (i := 1124) (by decide +kernel), List.mem_of_getElem? (i := 1654) (by decide +kernel), List.mem_of_getElem? (i := 1655) (by decide +kernel)⟩
theorem lw_p71 : lw_okq (⟨"StrayWoolModel", "isOpen", "(I)Z"⟩, 106) := ⟨⟨by decide +kernel, by decide +kernel⟩, List.mem_of_getElem? (i := 1124) (by decide +kernel), List.mem_of_getElem? (i := 1658) (by decide +kernel), List.mem_of_getElem? (i := 1659) (by decide +kernel)⟩
theorem lw_p72 : lw_okq (⟨"StrayWoolModel", "woolAll", "()I"⟩, 106) := ⟨⟨by decide +kernel, by decide +kernel⟩, List.mem_of_getElem? (i := 1124) (by decide +kernel), List.mem_of_getElem? (i := 1662) (by decide +kernel), List.mem_of_getElem? (i := 1663) (by decide +kernel)⟩
theorem lw_p73 : lw_okq (⟨"StrayWoolModel", "woolOf", "(I)I"⟩, 106) := ⟨⟨by decide +kernel, by decide +kernel⟩, List.mem_of_getElem? (i := 1124) (by decide +kernel), List.mem_of_getElem? (i := 1666) (by decide +kernel), List.mem_of_getElem? (i := 1667) (by decide +kernel)⟩
theorem lw_p74 : lw_okq (⟨"StrayWoolModel", "isField", "(J)Z"⟩, 106) := ⟨⟨by decide +kernel, by decide +kernel⟩, List.mem_of_getElem? (i := 1124) (by decide +kernel), List.mem_of_getElem? (i := 1679) (by decide +kernel), List.mem_of_getElem? (i := 1680) (by decide +kernel)⟩
theorem lw_p75 : lw_okq (⟨"StrayWoolModel", "isGap", "(J)Z"⟩, 106) := ⟨⟨by decide +kernel, by decide +kernel⟩, List.mem_of_getElem? (i := 1124) (by decide +kernel), List.mem_of_getElem? (i := 1687) (by decide +kernel), List.mem_of_getElem? (i := 1688) (by decide +kernel)⟩
theorem lw_p76 : lw_okq (⟨"StrayWoolModel", "isSheep", "(I)Z"⟩, 106) := ⟨⟨by decide +kernel, by decide +kernel⟩, List.mem_of_getElem? (i := 1124) (by decide +kernel), List.mem_of_getElem? (i := 1696) (by decide +kernel), List.mem_of_getElem? (i := 1697) (by decide +kernel)⟩
theorem lw_p77 : lw_okq (⟨"StrayWoolModel", "fieldOf", "(I)I"⟩, 106) := ⟨⟨by decide +kernel, by decide +kernel⟩, List.mem_of_getElem? (i := 1124) (by decide +kernel), List.mem_of_getElem? (i := 1700) (by decide +kernel), List.mem_of_getElem? (i := 1701) (by decide +kernel)⟩
theorem lw_p78 : lw_okq (⟨"StrayWoolModel", "curiousOf", "(I)I"⟩, 106) := ⟨⟨by decide +kernel, by decide +kernel⟩, List.mem_of_getElem? (i := 1124) (by decide +kernel), List.mem_of_getElem? (i := 1704) (by decide +kernel), List.mem_of_getElem? (i := 1705) (by decide +kernel)⟩
theorem lw_p79 : lw_okq (⟨"StrayWoolModel", "crimpOf", "(I)I"⟩, 106) := ⟨⟨by decide +kernel, by decide +kernel⟩, List.mem_of_getElem? (i := 1124) (by decide +kernel), List.mem_of_getElem? (i := 1708) (by decide +kernel), List.mem_of_getElem? (i := 1709) (by decide +kernel)⟩
def lw_privs_5 : List (MethodName × Nat) := [(⟨"StrayWoolModel", "qGoesOnTest", "()Z"⟩, 106), (⟨"StrayWoolModel", "qHasSquare", "()Z"⟩, 106), (⟨"StrayWoolModel", "stands", "()V"⟩, 106), (⟨"StrayWoolModel", "fieldMany", "()I"⟩, 106), (⟨"StrayWoolModel", "gapMany", "()I"⟩, 106), (⟨"StrayWoolModel", "sheepMany", "()I"⟩, 106), (⟨"StrayWoolModel", "openMany", "()I"⟩, 106), (⟨"StrayWoolModel", "isOpen", "(I)Z"⟩, 106), (⟨"StrayWoolModel", "woolAll", "()I"⟩, 106), (⟨"StrayWoolModel", "woolOf", "(I)I"⟩, 106), (⟨"StrayWoolModel", "isField", "(J)Z"⟩, 106), (⟨"StrayWoolModel", "isGap", "(J)Z"⟩, 106), (⟨"StrayWoolModel", "isSheep", "(I)Z"⟩, 106), (⟨"StrayWoolModel", "fieldOf", "(I)I"⟩, 106), (⟨"StrayWoolModel", "curiousOf", "(I)I"⟩, 106), (⟨"StrayWoolModel", "crimpOf", "(I)I"⟩, 106)]
theorem lw_r5 : ∀ q ∈ lw_privs_5, lw_okq q := List.forall_mem_cons.mpr ⟨lw_p64, List.forall_mem_cons.mpr ⟨lw_p65, List.forall_mem_cons.mpr ⟨lw_p66, List.forall_mem_cons.mpr ⟨lw_p67, List.forall_mem_cons.mpr ⟨lw_p68, List.forall_mem_cons.mpr ⟨lw_p69, List.forall_mem_cons.mpr ⟨lw_p70, List.forall_mem_cons.mpr ⟨lw_p71, List.forall_mem_cons.mpr ⟨lw_p72, List.forall_mem_cons.mpr ⟨lw_p73, List.forall_mem_cons.mpr ⟨lw_p74, List.forall_mem_cons.mpr ⟨lw_p75, List.forall_mem_cons.mpr ⟨lw_p76, List.forall_mem_cons.mpr ⟨lw_p77, List.forall_mem_cons.mpr ⟨lw_p78, List.forall_mem_cons.mpr ⟨lw_p79, fun _ h => absurd h List.not_mem_nil⟩⟩⟩⟩⟩⟩⟩⟩⟩⟩⟩⟩⟩⟩⟩⟩
theorem lw_p80 : lw_okq (⟨"StrayWoolModel", "ledOf", "(I)I"⟩, 106) := ⟨⟨by decide +kernel, by decide +kernel⟩, List.mem_of_getElem? (i := 1124) (by decide +kernel), List.mem_of_getElem? (i := 1712) (by decide +kernel), List.mem_of_getElem? (i := 1713) (by decide +kernel)⟩
theorem lw_p81 : lw_okq (⟨"StrayWoolModel", "homeOf", "(I)I"⟩, 106) := ⟨⟨by decide +kernel, by decide +kernel⟩, List.mem_of_getElem? (i := 1124) (by decide +kernel), List.mem_of_getElem? (i := 1716) (by decide +kernel), List.mem_of_getElem? (i := 1717) (by decide +kernel)⟩
theorem lw_p82 : lw_okq (⟨"StrayWoolModel", "seenOf", "(II)I"⟩, 106) := ⟨⟨by decide +kernel, by decide +kernel⟩, List.mem_of_getElem? (i := 1124) (by decide +kernel), List.mem_of_getElem? (i := 1724) (by decide +kernel), List.mem_of_getElem? (i := 1725) (by decide +kernel)⟩
theorem lw_p83 : lw_okq (⟨"StrayWoolModel", "gapFor", "(I)I"⟩, 106) := ⟨⟨by decide +kernel, by decide +kernel⟩, List.mem_of_getElem? (i := 1124) (by decide +kernel), List.mem_of_getElem? (i := 1732) (by decide +kernel), List.mem_of_getElem? (i := 1733) (by decide +kernel)⟩
theorem lw_p84 : lw_okq (⟨"StrayWoolModel", "doesStay", "(I)Z"⟩, 106) := ⟨⟨by decide +kernel, by decide +kernel⟩, List.mem_of_getElem? (i := 1124) (by decide +kernel), List.mem_of_getElem? (i := 1736) (by decide +kernel), List.mem_of_getElem? (i := 1737) (by decide +kernel)⟩
theorem lw_p85 : lw_okq (⟨"StrayWoolModel", "isTold", "(I)Z"⟩, 106) := ⟨⟨by decide +kernel, by decide +kernel⟩, List.mem_of_getElem? (i := 1124) (by decide +kernel), List.mem_of_getElem? (i := 1740) (by decide +kernel), List.mem_of_getElem? (i := 1741) (by decide +kernel)⟩
theorem lw_p86 : lw_okq (⟨"StrayWoolModel", "codesTell", "(II)J"⟩, 106) := ⟨⟨by decide +kernel, by decide +kernel⟩, List.mem_of_getElem? (i := 1124) (by decide +kernel), List.mem_of_getElem? (i := 1744) (by decide +kernel), List.mem_of_getElem? (i := 1745) (by decide +kernel)⟩
theorem lw_p87 : lw_okq (⟨"StrayWoolModel", "qPuts", "(J)V"⟩, 106) := ⟨⟨by decide +kernel, by decide +kernel⟩, List.mem_of_getElem? (i := 1124) (by decide +kernel), List.mem_of_getElem? (i := 1748) (by decide +kernel), List.mem_of_getElem? (i := 1749) (by decide +kernel)⟩
theorem lw_p88 : lw_okq (⟨"StrayWoolModel", "qPartOf", "(II)J"⟩, 106) := ⟨⟨by decide +kernel, by decide +kernel⟩, List.mem_of_getElem? (i := 1124) (by decide +kernel), List.mem_of_getElem? (i := 1752) (by decide +kernel), List.mem_of_getElem? (i := 1753) (by decide +kernel)⟩
theorem lw_p89 : lw_okq (⟨"StrayWoolModel", "qJoins", "(I)V"⟩, 106) := ⟨⟨by decide +kernel, by decide +kernel⟩, List.mem_of_getElem? (i := 1124) (by decide +kernel), List.mem_of_getElem? (i := 1756) (by decide +kernel), List.mem_of_getElem? (i := 1757) (by decide +kernel)⟩
theorem lw_p90 : lw_okq (⟨"StrayWoolModel", "beyond", "(II)I"⟩, 106) := ⟨⟨by decide +kernel, by decide +kernel⟩, List.mem_of_getElem? (i := 1124) (by decide +kernel), List.mem_of_getElem? (i := 1768) (by decide +kernel), List.mem_of_getElem? (i := 1769) (by decide +kernel)⟩
theorem lw_p91 : lw_okq (⟨"StrayWoolModel", "acrossFrom", "(II)I"⟩, 106) := ⟨⟨by decide +kernel, by decide +kernel⟩, List.mem_of_getElem? (i := 1124) (by decide +kernel), List.mem_of_getElem? (i := 1772) (by decide +kernel), List.mem_of_getElem? (i := 1773) (by decide +kernel)⟩
theorem lw_p92 : lw_okq (⟨"StrayWoolModel", "luresOf", "(II)J"⟩, 106) := ⟨⟨by decide +kernel, by decide +kernel⟩, List.mem_of_getElem? (i := 1124) (by decide +kernel), List.mem_of_getElem? (i := 1776) (by decide +kernel), List.mem_of_getElem? (i := 1777) (by decide +kernel)⟩
theorem lw_p93 : lw_okq (⟨"StrayWoolModel", "milesOf", "(I)I"⟩, 106) := ⟨⟨by decide +kernel, by decide +kernel⟩, List.mem_of_getElem? (i := 1124) (by decide +kernel), List.mem_of_getElem? (i := 1780) (by decide +kernel), List.mem_of_getElem? (i := 1781) (by decide +kernel)⟩
theorem lw_p94 : lw_okq (⟨"StrayWoolModel", "worthOf", "(I)I"⟩, 106) := ⟨⟨by decide +kernel, by decide +kernel⟩, List.mem_of_getElem? (i := 1124) (by decide +kernel), List.mem_of_getElem? (i := 1788) (by decide +kernel), List.mem_of_getElem? (i := 1789) (by decide +kernel)⟩
theorem lw_p95 : lw_okq (⟨"StrayWoolModel", "isAhead", "(III)Z"⟩, 106) := ⟨⟨by decide +kernel, by decide +kernel⟩, List.mem_of_getElem? (i := 1124) (by decide +kernel), List.mem_of_getElem? (i := 1801) (by decide +kernel), List.mem_of_getElem? (i := 1802) (by decide +kernel)⟩
def lw_privs_6 : List (MethodName × Nat) := [(⟨"StrayWoolModel", "ledOf", "(I)I"⟩, 106), (⟨"StrayWoolModel", "homeOf", "(I)I"⟩, 106), (⟨"StrayWoolModel", "seenOf", "(II)I"⟩, 106), (⟨"StrayWoolModel", "gapFor", "(I)I"⟩, 106), (⟨"StrayWoolModel", "doesStay", "(I)Z"⟩, 106), (⟨"StrayWoolModel", "isTold", "(I)Z"⟩, 106), (⟨"StrayWoolModel", "codesTell", "(II)J"⟩, 106), (⟨"StrayWoolModel", "qPuts", "(J)V"⟩, 106), (⟨"StrayWoolModel", "qPartOf", "(II)J"⟩, 106), (⟨"StrayWoolModel", "qJoins", "(I)V"⟩, 106), (⟨"StrayWoolModel", "beyond", "(II)I"⟩, 106), (⟨"StrayWoolModel", "acrossFrom", "(II)I"⟩, 106), (⟨"StrayWoolModel", "luresOf", "(II)J"⟩, 106), (⟨"StrayWoolModel", "milesOf", "(I)I"⟩, 106), (⟨"StrayWoolModel", "worthOf", "(I)I"⟩, 106), (⟨"StrayWoolModel", "isAhead", "(III)Z"⟩, 106)]
theorem lw_r6 : ∀ q ∈ lw_privs_6, lw_okq q := List.forall_mem_cons.mpr ⟨lw_p80, List.forall_mem_cons.mpr ⟨lw_p81, List.forall_mem_cons.mpr ⟨lw_p82, List.forall_mem_cons.mpr ⟨lw_p83, List.forall_mem_cons.mpr ⟨lw_p84, List.forall_mem_cons.mpr ⟨lw_p85, List.forall_mem_cons.mpr ⟨lw_p86, List.forall_mem_cons.mpr ⟨lw_p87, List.forall_mem_cons.mpr ⟨lw_p88, List.forall_mem_cons.mpr ⟨lw_p89, List.forall_mem_cons.mpr ⟨lw_p90, List.forall_mem_cons.mpr ⟨lw_p91, List.forall_mem_cons.mpr ⟨lw_p92, List.forall_mem_cons.mpr ⟨lw_p93, List.forall_mem_cons.mpr ⟨lw_p94, List.forall_mem_cons.mpr ⟨lw_p95, fun _ h => absurd h List.not_mem_nil⟩⟩⟩⟩⟩⟩⟩⟩⟩⟩⟩⟩⟩⟩⟩⟩
theorem lw_p96 : lw_okq (⟨"StrayWoolModel", "putsAside", "()V"⟩, 106) := ⟨⟨by decide +kernel, by decide +kernel⟩, List.mem_of_getElem? (i := 1124) (by decide +kernel), List.mem_of_getElem? (i := 1806) (by decide +kernel), List.mem_of_getElem? (i := 1807) (by decide +kernel)⟩
theorem lw_p97 : lw_okq (⟨"StrayWoolModel", "oneGoes", "(II)V"⟩, 106) := ⟨⟨by decide +kernel, by decide +kernel⟩, List.mem_of_getElem? (i := 1124) (by decide +kernel), List.mem_of_getElem? (i := 1810) (by decide +kernel), List.mem_of_getElem? (i := 1811) (by decide +kernel)⟩
theorem lw_p98 : lw_okq (⟨"StrayWoolModel", "sheepGoes", "(I)V"⟩, 106) := ⟨⟨by decide +kernel, by decide +kernel⟩, List.mem_of_getElem? (i := 1124) (by decide +kernel), List.mem_of_getElem? (i := 1814) (by decide +kernel), List.mem_of_getElem? (i := 1815) (by decide +kernel)⟩
theorem lw_p99 : lw_okq (⟨"StrayWoolModel", "goesThrough", "(II)V"⟩, 106) := ⟨⟨by decide +kernel, by decide +kernel⟩, List.mem_of_getElem? (i := 1124) (by decide +kernel), List.mem_of_getElem? (i := 1818) (by decide +kernel), List.mem_of_getElem? (i := 1819) (by decide +kernel)⟩
theorem lw_p100 : lw_okq (⟨"StrayWoolModel", "isKept", "(II)V"⟩, 106) := ⟨⟨by decide +kernel, by decide +kernel⟩, List.mem_of_getElem? (i := 1124) (by decide +kernel), List.mem_of_getElem? (i := 1825) (by decide +kernel), List.mem_of_getElem? (i := 1826) (by decide +kernel)⟩
theorem lw_p101 : lw_okq (⟨"StrayWoolModel", "takesBack", "()V"⟩, 106) := ⟨⟨by decide +kernel, by decide +kernel⟩, List.mem_of_getElem? (i := 1124) (by decide +kernel), List.mem_of_getElem? (i := 1829) (by decide +kernel), List.mem_of_getElem? (i := 1830) (by decide +kernel)⟩
theorem lw_p102 : lw_okq (⟨"StrayWoolModel", "triesAnew", "()V"⟩, 106) := ⟨⟨by decide +kernel, by decide +kernel⟩, List.mem_of_getElem? (i := 1124) (by decide +kernel), List.mem_of_getElem? (i := 1833) (by decide +kernel), List.mem_of_getElem? (i := 1834) (by decide +kernel)⟩
theorem lw_p103 : lw_okq (⟨"StrayWoolModel", "changes", "(I)V"⟩, 106) := ⟨⟨by decide +kernel, by decide +kernel⟩, List.mem_of_getElem? (i := 1124) (by decide +kernel), List.mem_of_getElem? (i := 1848) (by decide +kernel), List.mem_of_getElem? (i := 1849) (by decide +kernel)⟩
theorem lw_p104 : lw_okq (⟨"StrayWoolModel", "daysGo", "(I)V"⟩, 106) := ⟨⟨by decide +kernel, by decide +kernel⟩, List.mem_of_getElem? (i := 1124) (by decide +kernel), List.mem_of_getElem? (i := 1856) (by decide +kernel), List.mem_of_getElem? (i := 1857) (by decide +kernel)⟩
theorem lw_p105 : lw_okq (⟨"StrayWoolModel", "dayGoes", "()V"⟩, 106) := ⟨⟨by decide +kernel, by decide +kernel⟩, List.mem_of_getElem? (i := 1124) (by decide +kernel), List.mem_of_getElem? (i := 1860) (by decide +kernel), List.mem_of_getElem? (i := 1861) (by decide +kernel)⟩
theorem lw_p106 : lw_okq (⟨"StrayWoolModel", "isCheaper", "(III)Z"⟩, 106) := ⟨⟨by decide +kernel, by decide +kernel⟩, List.mem_of_getElem? (i := 1124) (by decide +kernel), List.mem_of_getElem? (i := 1868) (by decide +kernel), List.mem_of_getElem? (i := 1869) (by decide +kernel)⟩
theorem lw_p107 : lw_okq (⟨"StrayWoolModel", "milesBy", "(I)I"⟩, 106) := ⟨⟨by decide +kernel, by decide +kernel⟩, List.mem_of_getElem? (i := 1124) (by decide +kernel), List.mem_of_getElem? (i := 1880) (by decide +kernel), List.mem_of_getElem? (i := 1881) (by decide +kernel)⟩
theorem lw_p108 : lw_okq (⟨"StrayWoolModel", "watchers", "(I)I"⟩, 106) := ⟨⟨by decide +kernel, by decide +kernel⟩, List.mem_of_getElem? (i := 1124) (by decide +kernel), List.mem_of_getElem? (i := 1888) (by decide +kernel), List.mem_of_getElem? (i := 1889) (by decide +kernel)⟩
theorem lw_p109 : lw_okq (⟨"StrayWoolModel", "waysGo", "()V"⟩, 106) := ⟨⟨by decide +kernel, by decide +kernel⟩, List.mem_of_getElem? (i := 1124) (by decide +kernel), List.mem_of_getElem? (i := 1899) (by decide +kernel), List.mem_of_getElem? (i := 1900) (by decide +kernel)⟩
theorem lw_p110 : lw_okq (⟨"StrayWoolModel", "refuses", "(I)I"⟩, 106) := ⟨⟨by decide +kernel, by decide +kernel⟩, List.mem_of_getElem? (i := 1124) (by decide +kernel), List.mem_of_getElem? (i := 1907) (by decide +kernel), List.mem_of_getElem? (i := 1908) (by decide +kernel)⟩
theorem lw_p111 : lw_okq (⟨"StrayWoolModel", "curiousSet", "(I)I"⟩, 106) := ⟨⟨by decide +kernel, by decide +kernel⟩, List.mem_of_getElem? (i := 1124) (by decide +kernel), List.mem_of_getElem? (i := 1915) (by decide +kernel), List.mem_of_getElem? (i := 1916) (by decide +kernel)⟩
def lw_privs_7 : List (MethodName × Nat) := [(⟨"StrayWoolModel", "putsAside", "()V"⟩, 106), (⟨"StrayWoolModel", "oneGoes", "(II)V"⟩, 106), (⟨"StrayWoolModel", "sheepGoes", "(I)V"⟩, 106), (⟨"StrayWoolModel", "goesThrough", "(II)V"⟩, 106), (⟨"StrayWoolModel", "isKept", "(II)V"⟩, 106), (⟨"StrayWoolModel", "takesBack", "()V"⟩, 106), (⟨"StrayWoolModel", "triesAnew", "()V"⟩, 106), (⟨"StrayWoolModel", "changes", "(I)V"⟩, 106), (⟨"StrayWoolModel", "daysGo", "(I)V"⟩, 106), (⟨"StrayWoolModel", "dayGoes", "()V"⟩, 106), (⟨"StrayWoolModel", "isCheaper", "(III)Z"⟩, 106), (⟨"StrayWoolModel", "milesBy", "(I)I"⟩, 106), (⟨"StrayWoolModel", "watchers", "(I)I"⟩, 106), (⟨"StrayWoolModel", "waysGo", "()V"⟩, 106), (⟨"StrayWoolModel", "refuses", "(I)I"⟩, 106), (⟨"StrayWoolModel", "curiousSet", "(I)I"⟩, 106)]
theorem lw_r7 : ∀ q ∈ lw_privs_7, lw_okq q := List.forall_mem_cons.mpr ⟨lw_p96, List.forall_mem_cons.mpr ⟨lw_p97, List.forall_mem_cons.mpr ⟨lw_p98, List.forall_mem_cons.mpr ⟨lw_p99, List.forall_mem_cons.mpr ⟨lw_p100, List.forall_mem_cons.mpr ⟨lw_p101, List.forall_mem_cons.mpr ⟨lw_p102, List.forall_mem_cons.mpr ⟨lw_p103, List.forall_mem_cons.mpr ⟨lw_p104, List.forall_mem_cons.mpr ⟨lw_p105, List.forall_mem_cons.mpr ⟨lw_p106, List.forall_mem_cons.mpr ⟨lw_p107, List.forall_mem_cons.mpr ⟨lw_p108, List.forall_mem_cons.mpr ⟨lw_p109, List.forall_mem_cons.mpr ⟨lw_p110, List.forall_mem_cons.mpr ⟨lw_p111, fun _ h => absurd h List.not_mem_nil⟩⟩⟩⟩⟩⟩⟩⟩⟩⟩⟩⟩⟩⟩⟩⟩
theorem lw_p112 : lw_okq (⟨"StrayWoolModel", "isAsFelt", "(I)Z"⟩, 106) := ⟨⟨by decide +kernel, by decide +kernel⟩, List.mem_of_getElem? (i := 1124) (by decide +kernel), List.mem_of_getElem? (i := 1919) (by decide +kernel), List.mem_of_getElem? (i := 1920) (by decide +kernel)⟩
theorem lw_p113 : lw_okq (⟨"StrayWoolModel", "mostAlike", "(II)I"⟩, 106) := ⟨⟨by decide +kernel, by decide +kernel⟩, List.mem_of_getElem? (i := 1124) (by decide +kernel), List.mem_of_getElem? (i := 1927) (by decide +kernel), List.mem_of_getElem? (i := 1928) (by decide +kernel)⟩
theorem lw_p114 : lw_okq (⟨"StrayWoolModel", "keeps", "()V"⟩, 106) := ⟨⟨by decide +kernel, by decide +kernel⟩, List.mem_of_getElem? (i := 1124) (by decide +kernel), List.mem_of_getElem? (i := 1939) (by decide +kernel), List.mem_of_getElem? (i := 1940) (by decide +kernel)⟩
theorem lw_p115 : lw_okq (⟨"StrayWoolModel", "isRefused", "()Z"⟩, 106) := ⟨⟨by decide +kernel, by decide +kernel⟩, List.mem_of_getElem? (i := 1124) (by decide +kernel), List.mem_of_getElem? (i := 1948) (by decide +kernel), List.mem_of_getElem? (i := 1949) (by decide +kernel)⟩
theorem lw_p116 : lw_okq (⟨"StrayWoolModel", "drawOf", "(I)I"⟩, 106) := ⟨⟨by decide +kernel, by decide +kernel⟩, List.mem_of_getElem? (i := 1124) (by decide +kernel), List.mem_of_getElem? (i := 1973) (by decide +kernel), List.mem_of_getElem? (i := 1974) (by decide +kernel)⟩
theorem lw_p117 : lw_okq (⟨"StrayWoolModel", "qKind", "()I"⟩, 106) := ⟨⟨by decide +kernel, by decide +kernel⟩, List.mem_of_getElem? (i := 1124) (by decide +kernel), List.mem_of_getElem? (i := 1985) (by decide +kernel), List.mem_of_getElem? (i := 1986) (by decide +kernel)⟩
theorem lw_p118 : lw_okq (⟨"StrayWoolModel", "qTold", "(I)J"⟩, 106) := ⟨⟨by decide +kernel, by decide +kernel⟩, List.mem_of_getElem? (i := 1124) (by decide +kernel), List.mem_of_getElem? (i := 1990) (by decide +kernel), List.mem_of_getElem? (i := 1991) (by decide +kernel)⟩
theorem lw_p119 : lw_okq (⟨"StrayWoolModel", "qOf", "(IJI)J"⟩, 106) := ⟨⟨by decide +kernel, by decide +kernel⟩, List.mem_of_getElem? (i := 1124) (by decide +kernel), List.mem_of_getElem? (i := 1994) (by decide +kernel), List.mem_of_getElem? (i := 1995) (by decide +kernel)⟩
theorem lw_p120 : lw_okq (⟨"StrayWoolModel", "qTakes", "(IJI)V"⟩, 106) := ⟨⟨by decide +kernel, by decide +kernel⟩, List.mem_of_getElem? (i := 1124) (by decide +kernel), List.mem_of_getElem? (i := 1998) (by decide +kernel), List.mem_of_getElem? (i := 1999) (by decide +kernel)⟩
theorem lw_p121 : lw_okq (⟨"StrayWoolModel", "writesTwo", "(I)V"⟩, 106) := ⟨⟨by decide +kernel, by decide +kernel⟩, List.mem_of_getElem? (i := 1124) (by decide +kernel), List.mem_of_getElem? (i := 2006) (by decide +kernel), List.mem_of_getElem? (i := 2007) (by decide +kernel)⟩
theorem lw_p122 : lw_okq (⟨"StrayWoolModel", "writes", "(I)V"⟩, 106) := ⟨⟨by decide +kernel, by decide +kernel⟩, List.mem_of_getElem? (i := 1124) (by decide +kernel), List.mem_of_getElem? (i := 2010) (by decide +kernel), List.mem_of_getElem? (i := 2011) (by decide +kernel)⟩
theorem lw_p123 : lw_okq (⟨"StrayWoolModel", "isImage", "(I)Z"⟩, 106) := ⟨⟨by decide +kernel, by decide +kernel⟩, List.mem_of_getElem? (i := 1124) (by decide +kernel), List.mem_of_getElem? (i := 2026) (by decide +kernel), List.mem_of_getElem? (i := 2027) (by decide +kernel)⟩
theorem lw_p124 : lw_okq (⟨"StrayWoolModel", "twoAt", "(I)I"⟩, 106) := ⟨⟨by decide +kernel, by decide +kernel⟩, List.mem_of_getElem? (i := 1124) (by decide +kernel), List.mem_of_getElem? (i := 2030) (by decide +kernel), List.mem_of_getElem? (i := 2031) (by decide +kernel)⟩
theorem lw_p125 : lw_okq (⟨"StrayWoolModel", "isSheepTold", "(I)Z"⟩, 106) := ⟨⟨by decide +kernel, by decide +kernel⟩, List.mem_of_getElem? (i := 1124) (by decide +kernel), List.mem_of_getElem? (i := 2034) (by decide +kernel), List.mem_of_getElem? (i := 2035) (by decide +kernel)⟩
def lw_privs_8 : List (MethodName × Nat) := [(⟨"StrayWoolModel", "isAsFelt", "(I)Z"⟩, 106), (⟨"StrayWoolModel", "mostAlike", "(II)I"⟩, 106), (⟨"StrayWoolModel", "keeps", "()V"⟩, 106), (⟨"StrayWoolModel", "isRefused", "()Z"⟩, 106), (⟨"StrayWoolModel", "drawOf", "(I)I"⟩, 106), (⟨"StrayWoolModel", "qKind", "()I"⟩, 106), (⟨"StrayWoolModel", "qTold", "(I)J"⟩, 106), (⟨"StrayWoolModel", "qOf", "(IJI)J"⟩, 106), (⟨"StrayWoolModel", "qTakes", "(IJI)V"⟩, 106), (⟨"StrayWoolModel", "writesTwo", "(I)V"⟩, 106), (⟨"StrayWoolModel", "writes", "(I)V"⟩, 106), (⟨"StrayWoolModel", "isImage", "(I)Z"⟩, 106), (⟨"StrayWoolModel", "twoAt", "(I)I"⟩, 106), (⟨"StrayWoolModel", "isSheepTold", "(I)Z"⟩, 106)]
theorem lw_r8 : ∀ q ∈ lw_privs_8, lw_okq q := List.forall_mem_cons.mpr ⟨lw_p112, List.forall_mem_cons.mpr ⟨lw_p113, List.forall_mem_cons.mpr ⟨lw_p114, List.forall_mem_cons.mpr ⟨lw_p115, List.forall_mem_cons.mpr ⟨lw_p116, List.forall_mem_cons.mpr ⟨lw_p117, List.forall_mem_cons.mpr ⟨lw_p118, List.forall_mem_cons.mpr ⟨lw_p119, List.forall_mem_cons.mpr ⟨lw_p120, List.forall_mem_cons.mpr ⟨lw_p121, List.forall_mem_cons.mpr ⟨lw_p122, List.forall_mem_cons.mpr ⟨lw_p123, List.forall_mem_cons.mpr ⟨lw_p124, List.forall_mem_cons.mpr ⟨lw_p125, fun _ h => absurd h List.not_mem_nil⟩⟩⟩⟩⟩⟩⟩⟩⟩⟩⟩⟩⟩⟩
def lw_privs : List (MethodName × Nat) := lw_privs_1 ++ (lw_privs_2 ++ (lw_privs_3 ++ (lw_privs_4 ++ (lw_privs_5 ++ (lw_privs_6 ++ (lw_privs_7 ++ (lw_privs_8)))))))
def lw_tbl : List Cond := k2_sels lw_privs ++ tables_1
theorem lw_privs_ok : ∀ q ∈ lw_privs, lw_okq q := by
  show ∀ q ∈ lw_privs_1 ++ (lw_privs_2 ++ (lw_privs_3 ++ (lw_privs_4 ++ (lw_privs_5 ++ (lw_privs_6 ++ (lw_privs_7 ++ (lw_privs_8))))))), lw_okq q
  exact List.forall_mem_append.mpr ⟨lw_r1, List.forall_mem_append.mpr ⟨lw_r2, List.forall_mem_append.mpr ⟨lw_r3, List.forall_mem_append.mpr ⟨lw_r4, List.forall_mem_append.mpr ⟨lw_r5, List.forall_mem_append.mpr ⟨lw_r6, List.forall_mem_append.mpr ⟨lw_r7, lw_r8⟩⟩⟩⟩⟩⟩⟩
end
section
def RX0 : String := "StrayWool$Code"
def TX0 : u_T := fun k => match k with
  | 0 => ("StrayWool$Code", "codes", "[I", true)
  | _ => ("StrayWool$Code", "size", "I", false)
def tyX0 : Nat → FieldType := fun k => match k with
  | 0 => .array .int
  | _ => .int
theorem nmX0 : ∀ a, a < 2 → ∀ b, b < 2 → a ≠ b → (TX0 a).2.1 ≠ (TX0 b).2.1 := by decide +kernel
theorem tyX0_ok : ∀ k, k < 2 → parseFieldDescriptor (TX0 k).2.2.1 = some (tyX0 k) := by decide +kernel
abbrev cX0_init : ByteArray := prog_2_method_1_code
def yX0_init : MethodName := ⟨RX0, "<init>", "()V"⟩
abbrev cX0_emit : ByteArray := prog_2_method_2_code
def yX0_emit : MethodName := ⟨RX0, "emit", "(I)V"⟩
def RX1 : String := "StrayWool$Foresight"
def TX1 : u_T := fun k => match k with
  | 0 => ("StrayWool$Foresight", "hill", "LStrayWool$Hill;", true)
  | 1 => ("StrayWool$Foresight", "now", "LStrayWool$State;", true)
  | 2 => ("StrayWool$Foresight", "ahead", "LStrayWool$State;", true)
  | 3 => ("StrayWool$Foresight", "felt", "[I", true)
  | 4 => ("StrayWool$Foresight", "feltRows", "I", false)
  | 5 => ("StrayWool$Foresight", "fewest", "I", false)
  | 6 => ("StrayWool$Foresight", "pulls", "[I", true)
  | 7 => ("StrayWool$Foresight", "crimps", "[I", true)
  | 8 => ("StrayWool$Foresight", "distance", "[I", true)
  | 9 => ("StrayWool$Foresight", "near", "[I", true)
  | 10 => ("StrayWool$Foresight", "ends", "[J", false)
  | _ => ("StrayWool$Foresight", "nextEnds", "[J", false)
def tyX1 : Nat → FieldType := fun k => match k with
  | 0 => .object "StrayWool$Hill"
  | 1 => .object "StrayWool$State"
  | 2 => .object "StrayWool$State"
  | 3 => .array .int
  | 4 => .int
  | 5 => .int
  | 6 => .array .int
  | 7 => .array .int
  | 8 => .array .int
  | 9 => .array .int
  | 10 => .array .long
  | _ => .array .long
theorem nmX1 : ∀ a, a < 12 → ∀ b, b < 12 → a ≠ b → (TX1 a).2.1 ≠ (TX1 b).2.1 := by decide +kernel
theorem tyX1_ok : ∀ k, k < 12 → parseFieldDescriptor (TX1 k).2.2.1 = some (tyX1 k) := by decide +kernel
abbrev cX1_init : ByteArray := prog_3_method_1_code
def yX1_init : MethodName := ⟨RX1, "<init>", "(LStrayWool$Hill;LStrayWool$State;LStrayWool$State;)V"⟩
abbrev cX1_look : ByteArray := prog_3_method_2_code
def yX1_look : MethodName := ⟨RX1, "look", "(II)V"⟩
abbrev cX1_daysAtMost : ByteArray := prog_3_method_3_code
def yX1_daysAtMost : MethodName := ⟨RX1, "daysAtMost", "(I)I"⟩
abbrev cX1_daysToHome : ByteArray := prog_3_method_4_code
def yX1_daysToHome : MethodName := ⟨RX1, "daysToHome", "(I)I"⟩
abbrev cX1_fewestChanges : ByteArray := prog_3_method_5_code
def yX1_fewestChanges : MethodName := ⟨RX1, "fewestChanges", "(III)I"⟩
abbrev cX1_tryDays : ByteArray := prog_3_method_6_code
def yX1_tryDays : MethodName := ⟨RX1, "tryDays", "(IIIII)V"⟩
abbrev cX1_tryThrough : ByteArray := prog_3_method_7_code
def yX1_tryThrough : MethodName := ⟨RX1, "tryThrough", "(IIIIII)V"⟩
abbrev cX1_isFewer : ByteArray := prog_3_method_8_code
def yX1_isFewer : MethodName := ⟨RX1, "isFewer", "(I)Z"⟩
abbrev cX1_bestRumour : ByteArray := prog_3_method_9_code
def yX1_bestRumour : MethodName := ⟨RX1, "bestRumour", "(II)I"⟩
abbrev cX1_fewestMiles : ByteArray := prog_3_method_10_code
def yX1_fewestMiles : MethodName := ⟨RX1, "fewestMiles", "(II)I"⟩
abbrev cX1_shorten : ByteArray := prog_3_method_11_code
def yX1_shorten : MethodName := ⟨RX1, "shorten", "(III)V"⟩
abbrev cX1_bestWait : ByteArray := prog_3_method_12_code
def yX1_bestWait : MethodName := ⟨RX1, "bestWait", "(III)I"⟩
abbrev cX1_leastCoat : ByteArray := prog_3_method_13_code
def yX1_leastCoat : MethodName := ⟨RX1, "leastCoat", "(I)I"⟩
abbrev cX1_milesOf : ByteArray := prog_3_method_14_code
def yX1_milesOf : MethodName := ⟨RX1, "milesOf", "(I)I"⟩
abbrev cX1_leastWatch : ByteArray := prog_3_method_15_code
def yX1_leastWatch : MethodName := ⟨RX1, "leastWatch", "(I)I"⟩
abbrev cX1_fillNear : ByteArray := prog_3_method_16_code
def yX1_fillNear : MethodName := ⟨RX1, "fillNear", "()V"⟩
abbrev cX1_watches : ByteArray := prog_3_method_17_code
def yX1_watches : MethodName := ⟨RX1, "watches", "(II)Z"⟩
abbrev cX1_countWays : ByteArray := prog_3_method_18_code
def yX1_countWays : MethodName := ⟨RX1, "countWays", "(III)J"⟩
abbrev cX1_leadEnds : ByteArray := prog_3_method_19_code
def yX1_leadEnds : MethodName := ⟨RX1, "leadEnds", "(III)V"⟩
abbrev cX1_takeFelt : ByteArray := prog_3_method_20_code
def yX1_takeFelt : MethodName := ⟨RX1, "takeFelt", "([BI)Z"⟩
abbrev cX1_fillCrimps : ByteArray := prog_3_method_21_code
def yX1_fillCrimps : MethodName := ⟨RX1, "fillCrimps", "(I)V"⟩
abbrev cX1_curiousBits : ByteArray := prog_3_method_22_code
def yX1_curiousBits : MethodName := ⟨RX1, "curiousBits", "(I)I"⟩
abbrev cX1_curiousBy : ByteArray := prog_3_method_23_code
def yX1_curiousBy : MethodName := ⟨RX1, "curiousBy", "(II)I"⟩
abbrev cX1_telling : ByteArray := prog_3_method_24_code
def yX1_telling : MethodName := ⟨RX1, "telling", "(III)I"⟩
abbrev cX1_mostLeft : ByteArray := prog_3_method_25_code
def yX1_mostLeft : MethodName := ⟨RX1, "mostLeft", "(II)I"⟩
def RX2 : String := "StrayWool$Hill"
def TX2 : u_T := fun k => match k with
  | 0 => ("StrayWool$Hill", "land", "LStrayWool$Upland;", false)
  | 1 => ("StrayWool$Hill", "reckoner", "LStrayWool$Reckoner;", true)
  | _ => ("StrayWool$Hill", "pulls", "[I", true)
def tyX2 : Nat → FieldType := fun k => match k with
  | 0 => .object "StrayWool$Upland"
  | 1 => .object "StrayWool$Reckoner"
  | _ => .array .int
theorem nmX2 : ∀ a, a < 3 → ∀ b, b < 3 → a ≠ b → (TX2 a).2.1 ≠ (TX2 b).2.1 := by decide +kernel
theorem tyX2_ok : ∀ k, k < 3 → parseFieldDescriptor (TX2 k).2.2.1 = some (tyX2 k) := by decide +kernel
abbrev cX2_init : ByteArray := prog_4_method_1_code
def yX2_init : MethodName := ⟨RX2, "<init>", "()V"⟩
abbrev cX2_setSheep : ByteArray := prog_4_method_2_code
def yX2_setSheep : MethodName := ⟨RX2, "setSheep", "(LStrayWool$State;I)V"⟩
abbrev cX2_setField : ByteArray := prog_4_method_3_code
def yX2_setField : MethodName := ⟨RX2, "setField", "(LStrayWool$State;II)V"⟩
abbrev cX2_leads : ByteArray := prog_4_method_4_code
def yX2_leads : MethodName := ⟨RX2, "leads", "(LStrayWool$State;II)Z"⟩
abbrev cX2_choice : ByteArray := prog_4_method_5_code
def yX2_choice : MethodName := ⟨RX2, "choice", "(LStrayWool$State;I)I"⟩
abbrev cX2_luring : ByteArray := prog_4_method_6_code
def yX2_luring : MethodName := ⟨RX2, "luring", "(LStrayWool$State;II[II)I"⟩
abbrev cX2_mostLuring : ByteArray := prog_4_method_7_code
def yX2_mostLuring : MethodName := ⟨RX2, "mostLuring", "(I[II)I"⟩
abbrev cX2_pullBy : ByteArray := prog_4_method_8_code
def yX2_pullBy : MethodName := ⟨RX2, "pullBy", "(LStrayWool$State;III)I"⟩
abbrev cX2_passThrough : ByteArray := prog_4_method_9_code
def yX2_passThrough : MethodName := ⟨RX2, "passThrough", "(LStrayWool$State;II)V"⟩
abbrev cX2_passDay : ByteArray := prog_4_method_10_code
def yX2_passDay : MethodName := ⟨RX2, "passDay", "(LStrayWool$State;)I"⟩
abbrev cX2_goOn : ByteArray := prog_4_method_11_code
def yX2_goOn : MethodName := ⟨RX2, "goOn", "(LStrayWool$State;II)V"⟩
abbrev cX2_worthOf : ByteArray := prog_4_method_12_code
def yX2_worthOf : MethodName := ⟨RX2, "worthOf", "(LStrayWool$State;I)I"⟩
abbrev cX2_answer : ByteArray := prog_4_method_13_code
def yX2_answer : MethodName := ⟨RX2, "answer", "(LStrayWool$State;ILStrayWool$Code;)J"⟩
abbrev cX2_questionOf : ByteArray := prog_4_method_14_code
def yX2_questionOf : MethodName := ⟨RX2, "questionOf", "(LStrayWool$State;ILStrayWool$Code;)I"⟩
def RX3 : String := "StrayWool$Parser"
def TX3 : u_T := fun k => match k with
  | 0 => ("StrayWool$Parser", "reader", "LStrayWool$Reader;", true)
  | 1 => ("StrayWool$Parser", "land", "LStrayWool$Upland;", false)
  | 2 => ("StrayWool$Parser", "code", "LStrayWool$Code;", false)
  | _ => ("StrayWool$Parser", "use", "I", false)
def tyX3 : Nat → FieldType := fun k => match k with
  | 0 => .object "StrayWool$Reader"
  | 1 => .object "StrayWool$Upland"
  | 2 => .object "StrayWool$Code"
  | _ => .int
theorem nmX3 : ∀ a, a < 4 → ∀ b, b < 4 → a ≠ b → (TX3 a).2.1 ≠ (TX3 b).2.1 := by decide +kernel
theorem tyX3_ok : ∀ k, k < 4 → parseFieldDescriptor (TX3 k).2.2.1 = some (tyX3 k) := by decide +kernel
abbrev cX3_init : ByteArray := prog_5_method_1_code
def yX3_init : MethodName := ⟨RX3, "<init>", "(LStrayWool$Reader;LStrayWool$Upland;)V"⟩
abbrev cX3_readUpland : ByteArray := prog_5_method_2_code
def yX3_readUpland : MethodName := ⟨RX3, "readUpland", "([BILStrayWool$Upland;)Z"⟩
abbrev cX3_readQuestion : ByteArray := prog_5_method_3_code
def yX3_readQuestion : MethodName := ⟨RX3, "readQuestion", "([BILStrayWool$Code;)I"⟩
abbrev cX3_statement : ByteArray := prog_5_method_4_code
def yX3_statement : MethodName := ⟨RX3, "statement", "()Z"⟩
abbrev cX3_fieldStatement : ByteArray := prog_5_method_5_code
def yX3_fieldStatement : MethodName := ⟨RX3, "fieldStatement", "()Z"⟩
abbrev cX3_gapStatement : ByteArray := prog_5_method_6_code
def yX3_gapStatement : MethodName := ⟨RX3, "gapStatement", "()Z"⟩
abbrev cX3_shutStatement : ByteArray := prog_5_method_7_code
def yX3_shutStatement : MethodName := ⟨RX3, "shutStatement", "()Z"⟩
abbrev cX3_sheepStatement : ByteArray := prog_5_method_8_code
def yX3_sheepStatement : MethodName := ⟨RX3, "sheepStatement", "()Z"⟩
abbrev cX3_beginFormula : ByteArray := prog_5_method_9_code
def yX3_beginFormula : MethodName := ⟨RX3, "beginFormula", "(I)Z"⟩
abbrev cX3_endFormula : ByteArray := prog_5_method_10_code
def yX3_endFormula : MethodName := ⟨RX3, "endFormula", "(I)Z"⟩
abbrev cX3_stormStatement : ByteArray := prog_5_method_11_code
def yX3_stormStatement : MethodName := ⟨RX3, "stormStatement", "()Z"⟩
abbrev cX3_newName : ByteArray := prog_5_method_12_code
def yX3_newName : MethodName := ⟨RX3, "newName", "()I"⟩
abbrev cX3_knownField : ByteArray := prog_5_method_13_code
def yX3_knownField : MethodName := ⟨RX3, "knownField", "(I)I"⟩
abbrev cX3_test : ByteArray := prog_5_method_14_code
def yX3_test : MethodName := ⟨RX3, "test", "(I)Z"⟩
abbrev cX3_both : ByteArray := prog_5_method_15_code
def yX3_both : MethodName := ⟨RX3, "both", "(I)Z"⟩
abbrev cX3_fact : ByteArray := prog_5_method_16_code
def yX3_fact : MethodName := ⟨RX3, "fact", "(I)Z"⟩
abbrev cX3_signCode : ByteArray := prog_5_method_17_code
def yX3_signCode : MethodName := ⟨RX3, "signCode", "(I)I"⟩
abbrev cX3_opens : ByteArray := prog_5_method_18_code
def yX3_opens : MethodName := ⟨RX3, "opens", "(I)Z"⟩
abbrev cX3_sum : ByteArray := prog_5_method_19_code
def yX3_sum : MethodName := ⟨RX3, "sum", "(I)Z"⟩
abbrev cX3_product : ByteArray := prog_5_method_20_code
def yX3_product : MethodName := ⟨RX3, "product", "(I)Z"⟩
abbrev cX3_part : ByteArray := prog_5_method_21_code
def yX3_part : MethodName := ⟨RX3, "part", "(I)Z"⟩
abbrev cX3_variableOf : ByteArray := prog_5_method_22_code
def yX3_variableOf : MethodName := ⟨RX3, "variableOf", "(II)I"⟩
def RX4 : String := "StrayWool$Past"
def TX4 : u_T := fun k => match k with
  | 0 => ("StrayWool$Past", "states", "[LStrayWool$State;", true)
  | 1 => ("StrayWool$Past", "next", "I", false)
  | _ => ("StrayWool$Past", "count", "I", false)
def tyX4 : Nat → FieldType := fun k => match k with
  | 0 => .array (.object "StrayWool$State")
  | 1 => .int
  | _ => .int
theorem nmX4 : ∀ a, a < 3 → ∀ b, b < 3 → a ≠ b → (TX4 a).2.1 ≠ (TX4 b).2.1 := by decide +kernel
theorem tyX4_ok : ∀ k, k < 3 → parseFieldDescriptor (TX4 k).2.2.1 = some (tyX4 k) := by decide +kernel
abbrev cX4_init : ByteArray := prog_6_method_1_code
def yX4_init : MethodName := ⟨RX4, "<init>", "()V"⟩
abbrev cX4_clear : ByteArray := prog_6_method_2_code
def yX4_clear : MethodName := ⟨RX4, "clear", "()V"⟩
abbrev cX4_remember : ByteArray := prog_6_method_3_code
def yX4_remember : MethodName := ⟨RX4, "remember", "(LStrayWool$State;)V"⟩
abbrev cX4_restore : ByteArray := prog_6_method_4_code
def yX4_restore : MethodName := ⟨RX4, "restore", "(LStrayWool$State;)V"⟩
def RX5 : String := "StrayWool$Picture"
def TX5 : u_T := fun k => match k with
  | 0 => ("StrayWool$Picture", "bytes", "[B", true)
  | 1 => ("StrayWool$Picture", "size", "I", false)
  | 2 => ("StrayWool$Picture", "at", "I", false)
  | _ => ("StrayWool$Picture", "fits", "Z", false)
def tyX5 : Nat → FieldType := fun k => match k with
  | 0 => .array .byte
  | 1 => .int
  | 2 => .int
  | _ => .boolean
theorem nmX5 : ∀ a, a < 4 → ∀ b, b < 4 → a ≠ b → (TX5 a).2.1 ≠ (TX5 b).2.1 := by decide +kernel
theorem tyX5_ok : ∀ k, k < 4 → parseFieldDescriptor (TX5 k).2.2.1 = some (tyX5 k) := by decide +kernel
abbrev cX5_init : ByteArray := prog_7_method_1_code
def yX5_init : MethodName := ⟨RX5, "<init>", "()V"⟩
abbrev cX5_write : ByteArray := prog_7_method_2_code
def yX5_write : MethodName := ⟨RX5, "write", "(LStrayWool$Upland;LStrayWool$State;)V"⟩
abbrev cX5_put : ByteArray := prog_7_method_3_code
def yX5_put : MethodName := ⟨RX5, "put", "(II)V"⟩
abbrev cX5_checkOf : ByteArray := prog_7_method_4_code
def yX5_checkOf : MethodName := ⟨RX5, "checkOf", "([BI)I"⟩
abbrev cX5_read : ByteArray := prog_7_method_5_code
def yX5_read : MethodName := ⟨RX5, "read", "([BILStrayWool$Upland;LStrayWool$State;)Z"⟩
abbrev cX5_take : ByteArray := prog_7_method_6_code
def yX5_take : MethodName := ⟨RX5, "take", "([BII)I"⟩
def RX6 : String := "StrayWool$Reader"
def TX6 : u_T := fun k => match k with
  | 0 => ("StrayWool$Reader", "text", "[B", false)
  | 1 => ("StrayWool$Reader", "length", "I", false)
  | 2 => ("StrayWool$Reader", "kind", "I", false)
  | 3 => ("StrayWool$Reader", "start", "I", false)
  | 4 => ("StrayWool$Reader", "next", "I", false)
  | 5 => ("StrayWool$Reader", "fault", "I", false)
  | _ => ("StrayWool$Reader", "place", "I", false)
def tyX6 : Nat → FieldType := fun k => match k with
  | 0 => .array .byte
  | 1 => .int
  | 2 => .int
  | 3 => .int
  | 4 => .int
  | 5 => .int
  | _ => .int
theorem nmX6 : ∀ a, a < 7 → ∀ b, b < 7 → a ≠ b → (TX6 a).2.1 ≠ (TX6 b).2.1 := by decide +kernel
theorem tyX6_ok : ∀ k, k < 7 → parseFieldDescriptor (TX6 k).2.2.1 = some (tyX6 k) := by decide +kernel
abbrev cX6_init : ByteArray := prog_8_method_1_code
def yX6_init : MethodName := ⟨RX6, "<init>", "()V"⟩
abbrev cX6_open : ByteArray := prog_8_method_2_code
def yX6_open : MethodName := ⟨RX6, "open", "([BI)V"⟩
abbrev cX6_advance : ByteArray := prog_8_method_3_code
def yX6_advance : MethodName := ⟨RX6, "advance", "()V"⟩
abbrev cX6_isLetter : ByteArray := prog_8_method_4_code
def yX6_isLetter : MethodName := ⟨RX6, "isLetter", "(I)Z"⟩
abbrev cX6_isDigit : ByteArray := prog_8_method_5_code
def yX6_isDigit : MethodName := ⟨RX6, "isDigit", "(I)Z"⟩
abbrev cX6_wordKind : ByteArray := prog_8_method_6_code
def yX6_wordKind : MethodName := ⟨RX6, "wordKind", "()I"⟩
abbrev cX6_fail : ByteArray := prog_8_method_7_code
def yX6_fail : MethodName := ⟨RX6, "fail", "(II)Z"⟩
abbrev cX6_expect : ByteArray := prog_8_method_8_code
def yX6_expect : MethodName := ⟨RX6, "expect", "(I)Z"⟩
abbrev cX6_takeNumber : ByteArray := prog_8_method_9_code
def yX6_takeNumber : MethodName := ⟨RX6, "takeNumber", "(II)I"⟩
abbrev cX6_takeName : ByteArray := prog_8_method_10_code
def yX6_takeName : MethodName := ⟨RX6, "takeName", "()I"⟩
def RX7 : String := "StrayWool$Reckoner"
def TX7 : u_T := fun k => match k with
  | 0 => ("StrayWool$Reckoner", "values", "[I", true)
  | 1 => ("StrayWool$Reckoner", "stack", "[I", true)
  | _ => ("StrayWool$Reckoner", "top", "I", false)
def tyX7 : Nat → FieldType := fun k => match k with
  | 0 => .array .int
  | 1 => .array .int
  | _ => .int
theorem nmX7 : ∀ a, a < 3 → ∀ b, b < 3 → a ≠ b → (TX7 a).2.1 ≠ (TX7 b).2.1 := by decide +kernel
theorem tyX7_ok : ∀ k, k < 3 → parseFieldDescriptor (TX7 k).2.2.1 = some (tyX7 k) := by decide +kernel
abbrev cX7_init : ByteArray := prog_9_method_1_code
def yX7_init : MethodName := ⟨RX7, "<init>", "()V"⟩
abbrev cX7_run : ByteArray := prog_9_method_2_code
def yX7_run : MethodName := ⟨RX7, "run", "(LStrayWool$Upland;I)I"⟩
abbrev cX7_step : ByteArray := prog_9_method_3_code
def yX7_step : MethodName := ⟨RX7, "step", "(I)V"⟩
abbrev cX7_push : ByteArray := prog_9_method_4_code
def yX7_push : MethodName := ⟨RX7, "push", "(J)V"⟩
abbrev cX7_pop : ByteArray := prog_9_method_5_code
def yX7_pop : MethodName := ⟨RX7, "pop", "()I"⟩
def RX8 : String := "StrayWool$State"
def TX8 : u_T := fun k => match k with
  | 0 => ("StrayWool$State", "day", "I", false)
  | 1 => ("StrayWool$State", "purse", "I", false)
  | 2 => ("StrayWool$State", "open", "I", false)
  | 3 => ("StrayWool$State", "field", "[I", true)
  | 4 => ("StrayWool$State", "miles", "[I", true)
  | 5 => ("StrayWool$State", "crimp", "[I", true)
  | 6 => ("StrayWool$State", "led", "[I", true)
  | 7 => ("StrayWool$State", "curiosity", "[I", true)
  | 8 => ("StrayWool$State", "times", "[I", true)
  | 9 => ("StrayWool$State", "kept", "[I", true)
  | 10 => ("StrayWool$State", "keptFirst", "I", false)
  | _ => ("StrayWool$State", "keptRows", "I", false)
def tyX8 : Nat → FieldType := fun k => match k with
  | 0 => .int
  | 1 => .int
  | 2 => .int
  | 3 => .array .int
  | 4 => .array .int
  | 5 => .array .int
  | 6 => .array .int
  | 7 => .array .int
  | 8 => .array .int
  | 9 => .array .int
  | 10 => .int
  | _ => .int
theorem nmX8 : ∀ a, a < 12 → ∀ b, b < 12 → a ≠ b → (TX8 a).2.1 ≠ (TX8 b).2.1 := by decide +kernel
theorem tyX8_ok : ∀ k, k < 12 → parseFieldDescriptor (TX8 k).2.2.1 = some (tyX8 k) := by decide +kernel
abbrev cX8_init : ByteArray := prog_10_method_1_code
def yX8_init : MethodName := ⟨RX8, "<init>", "()V"⟩
abbrev cX8_begin : ByteArray := prog_10_method_2_code
def yX8_begin : MethodName := ⟨RX8, "begin", "(LStrayWool$Upland;)V"⟩
abbrev cX8_copyFrom : ByteArray := prog_10_method_3_code
def yX8_copyFrom : MethodName := ⟨RX8, "copyFrom", "(LStrayWool$State;)V"⟩
abbrev cX8_copyOne : ByteArray := prog_10_method_4_code
def yX8_copyOne : MethodName := ⟨RX8, "copyOne", "(LStrayWool$State;I)V"⟩
abbrev cX8_allMiles : ByteArray := prog_10_method_5_code
def yX8_allMiles : MethodName := ⟨RX8, "allMiles", "(I)I"⟩
abbrev cX8_keep : ByteArray := prog_10_method_6_code
def yX8_keep : MethodName := ⟨RX8, "keep", "(II)V"⟩
abbrev cX8_keptPart : ByteArray := prog_10_method_7_code
def yX8_keptPart : MethodName := ⟨RX8, "keptPart", "(II)I"⟩
def RX9 : String := "StrayWool$Upland"
def TX9 : u_T := fun k => match k with
  | 0 => ("StrayWool$Upland", "statements", "I", false)
  | 1 => ("StrayWool$Upland", "fields", "I", false)
  | 2 => ("StrayWool$Upland", "gaps", "I", false)
  | 3 => ("StrayWool$Upland", "sheep", "I", false)
  | 4 => ("StrayWool$Upland", "storm", "I", false)
  | 5 => ("StrayWool$Upland", "openAtFirst", "I", false)
  | 6 => ("StrayWool$Upland", "told", "I", false)
  | 7 => ("StrayWool$Upland", "fieldName", "[I", true)
  | 8 => ("StrayWool$Upland", "fieldLure", "[I", true)
  | 9 => ("StrayWool$Upland", "gapFrom", "[I", true)
  | 10 => ("StrayWool$Upland", "gapTo", "[I", true)
  | 11 => ("StrayWool$Upland", "gapMiles", "[I", true)
  | 12 => ("StrayWool$Upland", "sheepName", "[I", true)
  | 13 => ("StrayWool$Upland", "sheepHome", "[I", true)
  | 14 => ("StrayWool$Upland", "sheepCurious", "[I", true)
  | 15 => ("StrayWool$Upland", "code", "LStrayWool$Code;", true)
  | 16 => ("StrayWool$Upland", "codeFrom", "[I", true)
  | _ => ("StrayWool$Upland", "codeTo", "[I", true)
def tyX9 : Nat → FieldType := fun k => match k with
  | 0 => .int
  | 1 => .int
  | 2 => .int
  | 3 => .int
  | 4 => .int
  | 5 => .int
  | 6 => .int
  | 7 => .array .int
  | 8 => .array .int
  | 9 => .array .int
  | 10 => .array .int
  | 11 => .array .int
  | 12 => .array .int
  | 13 => .array .int
  | 14 => .array .int
  | 15 => .object "StrayWool$Code"
  | 16 => .array .int
  | _ => .array .int
theorem nmX9 : ∀ a, a < 18 → ∀ b, b < 18 → a ≠ b → (TX9 a).2.1 ≠ (TX9 b).2.1 := by decide +kernel
theorem tyX9_ok : ∀ k, k < 18 → parseFieldDescriptor (TX9 k).2.2.1 = some (tyX9 k) := by decide +kernel
abbrev cX9_init : ByteArray := prog_11_method_1_code
def yX9_init : MethodName := ⟨RX9, "<init>", "()V"⟩
abbrev cX9_clear : ByteArray := prog_11_method_2_code
def yX9_clear : MethodName := ⟨RX9, "clear", "()V"⟩
abbrev cX9_setFormula : ByteArray := prog_11_method_3_code
def yX9_setFormula : MethodName := ⟨RX9, "setFormula", "(III)V"⟩
abbrev cX9_fieldNamed : ByteArray := prog_11_method_4_code
def yX9_fieldNamed : MethodName := ⟨RX9, "fieldNamed", "(I)I"⟩
abbrev cX9_sheepNamed : ByteArray := prog_11_method_5_code
def yX9_sheepNamed : MethodName := ⟨RX9, "sheepNamed", "(I)I"⟩
abbrev cX9_beyond : ByteArray := prog_11_method_6_code
def yX9_beyond : MethodName := ⟨RX9, "beyond", "(II)I"⟩
def RX10 : String := "StrayWool"
def TX10 : u_T := fun k => match k with
  | 0 => ("StrayWool", "tape", "[B", true)
  | 1 => ("StrayWool", "tapeLength", "I", false)
  | 2 => ("StrayWool", "reader", "LStrayWool$Reader;", true)
  | 3 => ("StrayWool", "question", "LStrayWool$Code;", true)
  | 4 => ("StrayWool", "spare", "LStrayWool$Upland;", false)
  | 5 => ("StrayWool", "parser", "LStrayWool$Parser;", true)
  | 6 => ("StrayWool", "hill", "LStrayWool$Hill;", true)
  | 7 => ("StrayWool", "state", "LStrayWool$State;", true)
  | 8 => ("StrayWool", "ahead", "LStrayWool$State;", true)
  | 9 => ("StrayWool", "foresight", "LStrayWool$Foresight;", true)
  | 10 => ("StrayWool", "past", "LStrayWool$Past;", true)
  | 11 => ("StrayWool", "picture", "LStrayWool$Picture;", true)
  | 12 => ("StrayWool", "refused", "[I", true)
  | _ => ("StrayWool", "seed", "I", false)
def tyX10 : Nat → FieldType := fun k => match k with
  | 0 => .array .byte
  | 1 => .int
  | 2 => .object "StrayWool$Reader"
  | 3 => .object "StrayWool$Code"
  | 4 => .object "StrayWool$Upland"
  | 5 => .object "StrayWool$Parser"
  | 6 => .object "StrayWool$Hill"
  | 7 => .object "StrayWool$State"
  | 8 => .object "StrayWool$State"
  | 9 => .object "StrayWool$Foresight"
  | 10 => .object "StrayWool$Past"
  | 11 => .object "StrayWool$Picture"
  | 12 => .array .int
  | _ => .int
theorem nmX10 : ∀ a, a < 14 → ∀ b, b < 14 → a ≠ b → (TX10 a).2.1 ≠ (TX10 b).2.1 := by decide +kernel
theorem tyX10_ok : ∀ k, k < 14 → parseFieldDescriptor (TX10 k).2.2.1 = some (tyX10 k) := by decide +kernel
abbrev cX10_init : ByteArray := prog_1_method_1_code
def yX10_init : MethodName := ⟨RX10, "<init>", "()V"⟩
abbrev cX10_feed : ByteArray := prog_1_method_2_code
def yX10_feed : MethodName := ⟨RX10, "feed", "(IIIII)I"⟩
abbrev cX10_end : ByteArray := prog_1_method_3_code
def yX10_end : MethodName := ⟨RX10, "end", "(I)Z"⟩
abbrev cX10_upland : ByteArray := prog_1_method_4_code
def yX10_upland : MethodName := ⟨RX10, "upland", "()I"⟩
abbrev cX10_fault : ByteArray := prog_1_method_5_code
def yX10_fault : MethodName := ⟨RX10, "fault", "(I)I"⟩
abbrev cX10_has : ByteArray := prog_1_method_6_code
def yX10_has : MethodName := ⟨RX10, "has", "(I)I"⟩
abbrev cX10_letter : ByteArray := prog_1_method_7_code
def yX10_letter : MethodName := ⟨RX10, "letter", "(III)I"⟩
abbrev cX10_lure : ByteArray := prog_1_method_8_code
def yX10_lure : MethodName := ⟨RX10, "lure", "(I)I"⟩
abbrev cX10_gap : ByteArray := prog_1_method_9_code
def yX10_gap : MethodName := ⟨RX10, "gap", "(II)I"⟩
abbrev cX10_sheep : ByteArray := prog_1_method_10_code
def yX10_sheep : MethodName := ⟨RX10, "sheep", "(II)I"⟩
abbrev cX10_seen : ByteArray := prog_1_method_11_code
def yX10_seen : MethodName := ⟨RX10, "seen", "(II)I"⟩
abbrev cX10_strays : ByteArray := prog_1_method_12_code
def yX10_strays : MethodName := ⟨RX10, "strays", "(I)I"⟩
abbrev cX10_brings : ByteArray := prog_1_method_13_code
def yX10_brings : MethodName := ⟨RX10, "brings", "(I)I"⟩
abbrev cX10_kept : ByteArray := prog_1_method_14_code
def yX10_kept : MethodName := ⟨RX10, "kept", "(II)I"⟩
abbrev cX10_later : ByteArray := prog_1_method_15_code
def yX10_later : MethodName := ⟨RX10, "later", "(III)I"⟩
abbrev cX10_home : ByteArray := prog_1_method_16_code
def yX10_home : MethodName := ⟨RX10, "home", "(I)I"⟩
abbrev cX10_gaps : ByteArray := prog_1_method_17_code
def yX10_gaps : MethodName := ⟨RX10, "gaps", "(III)I"⟩
abbrev cX10_rumour : ByteArray := prog_1_method_18_code
def yX10_rumour : MethodName := ⟨RX10, "rumour", "(II)I"⟩
abbrev cX10_way : ByteArray := prog_1_method_19_code
def yX10_way : MethodName := ⟨RX10, "way", "(II)I"⟩
abbrev cX10_waits : ByteArray := prog_1_method_20_code
def yX10_waits : MethodName := ⟨RX10, "waits", "(III)I"⟩
abbrev cX10_coat : ByteArray := prog_1_method_21_code
def yX10_coat : MethodName := ⟨RX10, "coat", "(I)I"⟩
abbrev cX10_watch : ByteArray := prog_1_method_22_code
def yX10_watch : MethodName := ⟨RX10, "watch", "(I)I"⟩
abbrev cX10_ways : ByteArray := prog_1_method_23_code
def yX10_ways : MethodName := ⟨RX10, "ways", "(III)J"⟩
abbrev cX10_feel : ByteArray := prog_1_method_24_code
def yX10_feel : MethodName := ⟨RX10, "feel", "()I"⟩
abbrev cX10_curious : ByteArray := prog_1_method_25_code
def yX10_curious : MethodName := ⟨RX10, "curious", "(I)I"⟩
abbrev cX10_tells : ByteArray := prog_1_method_26_code
def yX10_tells : MethodName := ⟨RX10, "tells", "(II)I"⟩
abbrev cX10_shear : ByteArray := prog_1_method_27_code
def yX10_shear : MethodName := ⟨RX10, "shear", "(I)I"⟩
abbrev cX10_lead : ByteArray := prog_1_method_28_code
def yX10_lead : MethodName := ⟨RX10, "lead", "(II)Z"⟩
abbrev cX10_swing : ByteArray := prog_1_method_29_code
def yX10_swing : MethodName := ⟨RX10, "swing", "(II)Z"⟩
abbrev cX10_tell : ByteArray := prog_1_method_30_code
def yX10_tell : MethodName := ⟨RX10, "tell", "(III)Z"⟩
abbrev cX10_days : ByteArray := prog_1_method_31_code
def yX10_days : MethodName := ⟨RX10, "days", "(I)I"⟩
abbrev cX10_chance : ByteArray := prog_1_method_32_code
def yX10_chance : MethodName := ⟨RX10, "chance", "(I)I"⟩
abbrev cX10_undo : ByteArray := prog_1_method_33_code
def yX10_undo : MethodName := ⟨RX10, "undo", "()Z"⟩
abbrev cX10_seed : ByteArray := prog_1_method_34_code
def yX10_seed : MethodName := ⟨RX10, "seed", "(I)Z"⟩
abbrev cX10_ask : ByteArray := prog_1_method_35_code
def yX10_ask : MethodName := ⟨RX10, "ask", "()J"⟩
abbrev cX10_image : ByteArray := prog_1_method_36_code
def yX10_image : MethodName := ⟨RX10, "image", "()I"⟩
abbrev cX10_octet : ByteArray := prog_1_method_37_code
def yX10_octet : MethodName := ⟨RX10, "octet", "(I)I"⟩
abbrev cX10_on : ByteArray := prog_1_method_38_code
def yX10_on : MethodName := ⟨RX10, "on", "()Z"⟩
abbrev cX10_status : ByteArray := prog_1_method_39_code
def yX10_status : MethodName := ⟨RX10, "status", "(I)I"⟩
abbrev cX10_refuse : ByteArray := prog_1_method_40_code
def yX10_refuse : MethodName := ⟨RX10, "refuse", "(I)I"⟩
abbrev cX10_putBytes : ByteArray := prog_1_method_41_code
def yX10_putBytes : MethodName := ⟨RX10, "putBytes", "(I)V"⟩
abbrev cX10_takeTape : ByteArray := prog_1_method_42_code
def yX10_takeTape : MethodName := ⟨RX10, "takeTape", "()I"⟩
abbrev cX10_isField : ByteArray := prog_1_method_43_code
def yX10_isField : MethodName := ⟨RX10, "isField", "(I)Z"⟩
abbrev cX10_isGap : ByteArray := prog_1_method_44_code
def yX10_isGap : MethodName := ⟨RX10, "isGap", "(I)Z"⟩
abbrev cX10_isSheep : ByteArray := prog_1_method_45_code
def yX10_isSheep : MethodName := ⟨RX10, "isSheep", "(I)Z"⟩
abbrev cX10_canCome : ByteArray := prog_1_method_46_code
def yX10_canCome : MethodName := ⟨RX10, "canCome", "(II)Z"⟩
abbrev cX10_stormComes : ByteArray := prog_1_method_47_code
def yX10_stormComes : MethodName := ⟨RX10, "stormComes", "()Z"⟩
abbrev cX10_draw : ByteArray := prog_1_method_48_code
def yX10_draw : MethodName := ⟨RX10, "draw", "(I)I"⟩
def RX11 : String := "StrayWoolModel"
def TX11 : u_T := fun k => match k with
  | 0 => ("StrayWoolModel", "tape", "[I", true)
  | 1 => ("StrayWoolModel", "taped", "I", false)
  | 2 => ("StrayWoolModel", "at", "I", false)
  | 3 => ("StrayWoolModel", "end", "I", false)
  | 4 => ("StrayWoolModel", "ended", "I", false)
  | 5 => ("StrayWoolModel", "bad", "I", false)
  | 6 => ("StrayWoolModel", "badPlace", "I", false)
  | 7 => ("StrayWoolModel", "fault", "I", false)
  | 8 => ("StrayWoolModel", "faultPlace", "I", false)
  | 9 => ("StrayWoolModel", "refused", "[I", true)
  | 10 => ("StrayWoolModel", "numberPlace", "I", false)
  | 11 => ("StrayWoolModel", "fieldWord", "[C", true)
  | 12 => ("StrayWoolModel", "lureWord", "[C", true)
  | 13 => ("StrayWoolModel", "gapWord", "[C", true)
  | 14 => ("StrayWoolModel", "toWord", "[C", true)
  | 15 => ("StrayWoolModel", "milesWord", "[C", true)
  | 16 => ("StrayWoolModel", "shutWord", "[C", true)
  | 17 => ("StrayWoolModel", "sheepWord", "[C", true)
  | 18 => ("StrayWoolModel", "atWord", "[C", true)
  | 19 => ("StrayWoolModel", "curiousWord", "[C", true)
  | 20 => ("StrayWoolModel", "luresWord", "[C", true)
  | 21 => ("StrayWoolModel", "staysWord", "[C", true)
  | 22 => ("StrayWoolModel", "worthWord", "[C", true)
  | 23 => ("StrayWoolModel", "stormWord", "[C", true)
  | 24 => ("StrayWoolModel", "woolWord", "[C", true)
  | 25 => ("StrayWoolModel", "dayWord", "[C", true)
  | 26 => ("StrayWoolModel", "seenWord", "[C", true)
  | 27 => ("StrayWoolModel", "crimpWord", "[C", true)
  | 28 => ("StrayWoolModel", "ledWord", "[C", true)
  | 29 => ("StrayWoolModel", "numberWord", "[C", true)
  | 30 => ("StrayWoolModel", "orWord", "[C", true)
  | 31 => ("StrayWoolModel", "andWord", "[C", true)
  | 32 => ("StrayWoolModel", "notWord", "[C", true)
  | 33 => ("StrayWoolModel", "allWord", "[C", true)
  | 34 => ("StrayWoolModel", "minWord", "[C", true)
  | 35 => ("StrayWoolModel", "maxWord", "[C", true)
  | 36 => ("StrayWoolModel", "namePlace", "I", false)
  | 37 => ("StrayWoolModel", "many", "[I", true)
  | 38 => ("StrayWoolModel", "names", "[J", true)
  | 39 => ("StrayWoolModel", "lures0", "[I", true)
  | 40 => ("StrayWoolModel", "gaps0", "[I", true)
  | 41 => ("StrayWoolModel", "open0", "[I", true)
  | 42 => ("StrayWoolModel", "flock", "[I", true)
  | 43 => ("StrayWoolModel", "codeFrom", "[I", true)
  | 44 => ("StrayWoolModel", "codeEnd", "[I", true)
  | 45 => ("StrayWoolModel", "codes", "[I", true)
  | 46 => ("StrayWoolModel", "coded", "I", false)
  | 47 => ("StrayWoolModel", "statements", "I", false)
  | 48 => ("StrayWoolModel", "textKind", "I", false)
  | 49 => ("StrayWoolModel", "now", "[I", true)
  | 50 => ("StrayWoolModel", "aside", "[I", true)
  | 51 => ("StrayWoolModel", "curious0", "[I", true)
  | 52 => ("StrayWoolModel", "thoughtSheep", "I", false)
  | 53 => ("StrayWoolModel", "thoughtCurious", "I", false)
  | 54 => ("StrayWoolModel", "askSheep", "I", false)
  | 55 => ("StrayWoolModel", "askField", "I", false)
  | 56 => ("StrayWoolModel", "askMiles", "I", false)
  | 57 => ("StrayWoolModel", "luredBy", "[J", true)
  | 58 => ("StrayWoolModel", "isThought", "Z", false)
  | 59 => ("StrayWoolModel", "strayMany", "I", false)
  | 60 => ("StrayWoolModel", "costs", "[I", true)
  | 61 => ("StrayWoolModel", "ways0", "[J", true)
  | 62 => ("StrayWoolModel", "ways1", "[J", true)
  | 63 => ("StrayWoolModel", "rowMany", "I", false)
  | 64 => ("StrayWoolModel", "rows", "[I", true)
  | 65 => ("StrayWoolModel", "crimps", "[I", true)
  | 66 => ("StrayWoolModel", "kept0", "[I", true)
  | 67 => ("StrayWoolModel", "undoable", "I", false)
  | 68 => ("StrayWoolModel", "newest", "I", false)
  | 69 => ("StrayWoolModel", "seeded", "J", false)
  | 70 => ("StrayWoolModel", "firstAsked", "[C", true)
  | 71 => ("StrayWoolModel", "lastAsked", "[C", true)
  | 72 => ("StrayWoolModel", "oftenAsked", "[C", true)
  | 73 => ("StrayWoolModel", "totalAsked", "[C", true)
  | 74 => ("StrayWoolModel", "mostAsked", "[C", true)
  | 75 => ("StrayWoolModel", "leastAsked", "[C", true)
  | 76 => ("StrayWoolModel", "notAsked", "[C", true)
  | 77 => ("StrayWoolModel", "andAsked", "[C", true)
  | 78 => ("StrayWoolModel", "orAsked", "[C", true)
  | 79 => ("StrayWoolModel", "allAsked", "[C", true)
  | 80 => ("StrayWoolModel", "minAsked", "[C", true)
  | 81 => ("StrayWoolModel", "maxAsked", "[C", true)
  | 82 => ("StrayWoolModel", "curiousAsked", "[C", true)
  | 83 => ("StrayWoolModel", "woolAsked", "[C", true)
  | 84 => ("StrayWoolModel", "dayAsked", "[C", true)
  | 85 => ("StrayWoolModel", "lureAsked", "[C", true)
  | 86 => ("StrayWoolModel", "seenAsked", "[C", true)
  | 87 => ("StrayWoolModel", "milesAsked", "[C", true)
  | 88 => ("StrayWoolModel", "crimpAsked", "[C", true)
  | 89 => ("StrayWoolModel", "ledAsked", "[C", true)
  | 90 => ("StrayWoolModel", "numberAsked", "[C", true)
  | 91 => ("StrayWoolModel", "atAsked", "[C", true)
  | 92 => ("StrayWoolModel", "seenofAsked", "[C", true)
  | 93 => ("StrayWoolModel", "luresofAsked", "[C", true)
  | 94 => ("StrayWoolModel", "qCodes", "[I", true)
  | 95 => ("StrayWoolModel", "qCoded", "I", false)
  | 96 => ("StrayWoolModel", "qWait", "[I", true)
  | 97 => ("StrayWoolModel", "qWaits", "I", false)
  | 98 => ("StrayWoolModel", "qOpened", "I", false)
  | 99 => ("StrayWoolModel", "qBase", "I", false)
  | 100 => ("StrayWoolModel", "qPile", "[J", true)
  | 101 => ("StrayWoolModel", "qPiled", "I", false)
  | 102 => ("StrayWoolModel", "qAnswer", "J", false)
  | 103 => ("StrayWoolModel", "qIsNew", "Z", false)
  | 104 => ("StrayWoolModel", "octet", "[I", true)
  | _ => ("StrayWoolModel", "octets", "I", false)
def tyX11 : Nat → FieldType := fun k => match k with
  | 0 => .array .int
  | 1 => .int
  | 2 => .int
  | 3 => .int
  | 4 => .int
  | 5 => .int
  | 6 => .int
  | 7 => .int
  | 8 => .int
  | 9 => .array .int
  | 10 => .int
  | 11 => .array .char
  | 12 => .array .char
  | 13 => .array .char
  | 14 => .array .char
  | 15 => .array .char
  | 16 => .array .char
  | 17 => .array .char
  | 18 => .array .char
  | 19 => .array .char
  | 20 => .array .char
  | 21 => .array .char
  | 22 => .array .char
  | 23 => .array .char
  | 24 => .array .char
  | 25 => .array .char
  | 26 => .array .char
  | 27 => .array .char
  | 28 => .array .char
  | 29 => .array .char
  | 30 => .array .char
  | 31 => .array .char
  | 32 => .array .char
  | 33 => .array .char
  | 34 => .array .char
  | 35 => .array .char
  | 36 => .int
  | 37 => .array .int
  | 38 => .array .long
  | 39 => .array .int
  | 40 => .array .int
  | 41 => .array .int
  | 42 => .array .int
  | 43 => .array .int
  | 44 => .array .int
  | 45 => .array .int
  | 46 => .int
  | 47 => .int
  | 48 => .int
  | 49 => .array .int
  | 50 => .array .int
  | 51 => .array .int
  | 52 => .int
  | 53 => .int
  | 54 => .int
  | 55 => .int
  | 56 => .int
  | 57 => .array .long
  | 58 => .boolean
  | 59 => .int
  | 60 => .array .int
  | 61 => .array .long
  | 62 => .array .long
  | 63 => .int
  | 64 => .array .int
  | 65 => .array .int
  | 66 => .array .int
  | 67 => .int
  | 68 => .int
  | 69 => .long
  | 70 => .array .char
  | 71 => .array .char
  | 72 => .array .char
  | 73 => .array .char
  | 74 => .array .char
  | 75 => .array .char
  | 76 => .array .char
  | 77 => .array .char
  | 78 => .array .char
  | 79 => .array .char
  | 80 => .array .char
  | 81 => .array .char
  | 82 => .array .char
  | 83 => .array .char
  | 84 => .array .char
  | 85 => .array .char
  | 86 => .array .char
  | 87 => .array .char
  | 88 => .array .char
  | 89 => .array .char
  | 90 => .array .char
  | 91 => .array .char
  | 92 => .array .char
  | 93 => .array .char
  | 94 => .array .int
  | 95 => .int
  | 96 => .array .int
  | 97 => .int
  | 98 => .int
  | 99 => .int
  | 100 => .array .long
  | 101 => .int
  | 102 => .long
  | 103 => .boolean
  | 104 => .array .int
  | _ => .int
theorem nmX11 : ∀ a, a < 106 → ∀ b, b < 106 → a ≠ b → (TX11 a).2.1 ≠ (TX11 b).2.1 := by decide +kernel
theorem tyX11_ok : ∀ k, k < 106 → parseFieldDescriptor (TX11 k).2.2.1 = some (tyX11 k) := by decide +kernel
abbrev cX11_init : ByteArray := prog_13_method_1_code
def yX11_init : MethodName := ⟨RX11, "<init>", "()V"⟩
abbrev cX11_isIn : ByteArray := prog_13_method_2_code
def yX11_isIn : MethodName := ⟨RX11, "isIn", "(JJJ)Z"⟩
abbrev cX11_feed : ByteArray := prog_13_method_3_code
def yX11_feed : MethodName := ⟨RX11, "feed", "(IIIII)I"⟩
abbrev cX11_end : ByteArray := prog_13_method_4_code
def yX11_end : MethodName := ⟨RX11, "end", "(I)Z"⟩
abbrev cX11_fail : ByteArray := prog_13_method_5_code
def yX11_fail : MethodName := ⟨RX11, "fail", "(II)V"⟩
abbrev cX11_isLetter : ByteArray := prog_13_method_6_code
def yX11_isLetter : MethodName := ⟨RX11, "isLetter", "(I)Z"⟩
abbrev cX11_isDigit : ByteArray := prog_13_method_7_code
def yX11_isDigit : MethodName := ⟨RX11, "isDigit", "(I)Z"⟩
abbrev cX11_look : ByteArray := prog_13_method_8_code
def yX11_look : MethodName := ⟨RX11, "look", "()I"⟩
abbrev cX11_isHere : ByteArray := prog_13_method_9_code
def yX11_isHere : MethodName := ⟨RX11, "isHere", "([C)Z"⟩
abbrev cX11_takes : ByteArray := prog_13_method_10_code
def yX11_takes : MethodName := ⟨RX11, "takes", "([C)Z"⟩
abbrev cX11_asks : ByteArray := prog_13_method_11_code
def yX11_asks : MethodName := ⟨RX11, "asks", "([C)V"⟩
abbrev cX11_takesSign : ByteArray := prog_13_method_12_code
def yX11_takesSign : MethodName := ⟨RX11, "takesSign", "(I)Z"⟩
abbrev cX11_asksSign : ByteArray := prog_13_method_13_code
def yX11_asksSign : MethodName := ⟨RX11, "asksSign", "(I)V"⟩
abbrev cX11_number : ByteArray := prog_13_method_14_code
def yX11_number : MethodName := ⟨RX11, "number", "(II)I"⟩
abbrev cX11_isOwnHere : ByteArray := prog_13_method_15_code
def yX11_isOwnHere : MethodName := ⟨RX11, "isOwnHere", "()Z"⟩
abbrev cX11_name : ByteArray := prog_13_method_16_code
def yX11_name : MethodName := ⟨RX11, "name", "()J"⟩
abbrev cX11_isAllowed : ByteArray := prog_13_method_17_code
def yX11_isAllowed : MethodName := ⟨RX11, "isAllowed", "(I)Z"⟩
abbrev cX11_isFull : ByteArray := prog_13_method_18_code
def yX11_isFull : MethodName := ⟨RX11, "isFull", "(III)Z"⟩
abbrev cX11_newName : ByteArray := prog_13_method_19_code
def yX11_newName : MethodName := ⟨RX11, "newName", "()J"⟩
abbrev cX11_fieldNamed : ByteArray := prog_13_method_20_code
def yX11_fieldNamed : MethodName := ⟨RX11, "fieldNamed", "(I)I"⟩
abbrev cX11_fieldTold : ByteArray := prog_13_method_21_code
def yX11_fieldTold : MethodName := ⟨RX11, "fieldTold", "(I)V"⟩
abbrev cX11_gapTold : ByteArray := prog_13_method_22_code
def yX11_gapTold : MethodName := ⟨RX11, "gapTold", "(I)V"⟩
abbrev cX11_shutTold : ByteArray := prog_13_method_23_code
def yX11_shutTold : MethodName := ⟨RX11, "shutTold", "()V"⟩
abbrev cX11_sheepTold : ByteArray := prog_13_method_24_code
def yX11_sheepTold : MethodName := ⟨RX11, "sheepTold", "(I)V"⟩
abbrev cX11_codesTold : ByteArray := prog_13_method_25_code
def yX11_codesTold : MethodName := ⟨RX11, "codesTold", "(II)V"⟩
abbrev cX11_statementTold : ByteArray := prog_13_method_26_code
def yX11_statementTold : MethodName := ⟨RX11, "statementTold", "()V"⟩
abbrev cX11_upland : ByteArray := prog_13_method_27_code
def yX11_upland : MethodName := ⟨RX11, "upland", "()I"⟩
abbrev cX11_stands : ByteArray := prog_13_method_28_code
def yX11_stands : MethodName := ⟨RX11, "stands", "()V"⟩
abbrev cX11_fault : ByteArray := prog_13_method_29_code
def yX11_fault : MethodName := ⟨RX11, "fault", "(I)I"⟩
abbrev cX11_fieldMany : ByteArray := prog_13_method_30_code
def yX11_fieldMany : MethodName := ⟨RX11, "fieldMany", "()I"⟩
abbrev cX11_sheepMany : ByteArray := prog_13_method_31_code
def yX11_sheepMany : MethodName := ⟨RX11, "sheepMany", "()I"⟩
abbrev cX11_gapMany : ByteArray := prog_13_method_32_code
def yX11_gapMany : MethodName := ⟨RX11, "gapMany", "()I"⟩
abbrev cX11_isField : ByteArray := prog_13_method_33_code
def yX11_isField : MethodName := ⟨RX11, "isField", "(J)Z"⟩
abbrev cX11_isSheep : ByteArray := prog_13_method_34_code
def yX11_isSheep : MethodName := ⟨RX11, "isSheep", "(I)Z"⟩
abbrev cX11_isGap : ByteArray := prog_13_method_35_code
def yX11_isGap : MethodName := ⟨RX11, "isGap", "(J)Z"⟩
abbrev cX11_isOpen : ByteArray := prog_13_method_36_code
def yX11_isOpen : MethodName := ⟨RX11, "isOpen", "(I)Z"⟩
abbrev cX11_milesOf : ByteArray := prog_13_method_37_code
def yX11_milesOf : MethodName := ⟨RX11, "milesOf", "(I)I"⟩
abbrev cX11_fieldOf : ByteArray := prog_13_method_38_code
def yX11_fieldOf : MethodName := ⟨RX11, "fieldOf", "(I)I"⟩
abbrev cX11_woolOf : ByteArray := prog_13_method_39_code
def yX11_woolOf : MethodName := ⟨RX11, "woolOf", "(I)I"⟩
abbrev cX11_crimpOf : ByteArray := prog_13_method_40_code
def yX11_crimpOf : MethodName := ⟨RX11, "crimpOf", "(I)I"⟩
abbrev cX11_ledOf : ByteArray := prog_13_method_41_code
def yX11_ledOf : MethodName := ⟨RX11, "ledOf", "(I)I"⟩
abbrev cX11_seenOf : ByteArray := prog_13_method_42_code
def yX11_seenOf : MethodName := ⟨RX11, "seenOf", "(II)I"⟩
abbrev cX11_homeOf : ByteArray := prog_13_method_43_code
def yX11_homeOf : MethodName := ⟨RX11, "homeOf", "(I)I"⟩
abbrev cX11_curiousOf : ByteArray := prog_13_method_44_code
def yX11_curiousOf : MethodName := ⟨RX11, "curiousOf", "(I)I"⟩
abbrev cX11_acrossFrom : ByteArray := prog_13_method_45_code
def yX11_acrossFrom : MethodName := ⟨RX11, "acrossFrom", "(II)I"⟩
abbrev cX11_beyond : ByteArray := prog_13_method_46_code
def yX11_beyond : MethodName := ⟨RX11, "beyond", "(II)I"⟩
abbrev cX11_isTold : ByteArray := prog_13_method_47_code
def yX11_isTold : MethodName := ⟨RX11, "isTold", "(I)Z"⟩
abbrev cX11_codesTell : ByteArray := prog_13_method_48_code
def yX11_codesTell : MethodName := ⟨RX11, "codesTell", "(II)J"⟩
abbrev cX11_luresOf : ByteArray := prog_13_method_49_code
def yX11_luresOf : MethodName := ⟨RX11, "luresOf", "(II)J"⟩
abbrev cX11_doesStay : ByteArray := prog_13_method_50_code
def yX11_doesStay : MethodName := ⟨RX11, "doesStay", "(I)Z"⟩
abbrev cX11_worthOf : ByteArray := prog_13_method_51_code
def yX11_worthOf : MethodName := ⟨RX11, "worthOf", "(I)I"⟩
abbrev cX11_gapFor : ByteArray := prog_13_method_52_code
def yX11_gapFor : MethodName := ⟨RX11, "gapFor", "(I)I"⟩
abbrev cX11_least : ByteArray := prog_13_method_53_code
def yX11_least : MethodName := ⟨RX11, "least", "(II)I"⟩
abbrev cX11_goesThrough : ByteArray := prog_13_method_54_code
def yX11_goesThrough : MethodName := ⟨RX11, "goesThrough", "(II)V"⟩
abbrev cX11_isKept : ByteArray := prog_13_method_55_code
def yX11_isKept : MethodName := ⟨RX11, "isKept", "(II)V"⟩
abbrev cX11_sheepGoes : ByteArray := prog_13_method_56_code
def yX11_sheepGoes : MethodName := ⟨RX11, "sheepGoes", "(I)V"⟩
abbrev cX11_dayGoes : ByteArray := prog_13_method_57_code
def yX11_dayGoes : MethodName := ⟨RX11, "dayGoes", "()V"⟩
abbrev cX11_daysGo : ByteArray := prog_13_method_58_code
def yX11_daysGo : MethodName := ⟨RX11, "daysGo", "(I)V"⟩
abbrev cX11_oneGoes : ByteArray := prog_13_method_59_code
def yX11_oneGoes : MethodName := ⟨RX11, "oneGoes", "(II)V"⟩
abbrev cX11_putsAside : ByteArray := prog_13_method_60_code
def yX11_putsAside : MethodName := ⟨RX11, "putsAside", "()V"⟩
abbrev cX11_triesAnew : ByteArray := prog_13_method_61_code
def yX11_triesAnew : MethodName := ⟨RX11, "triesAnew", "()V"⟩
abbrev cX11_takesBack : ByteArray := prog_13_method_62_code
def yX11_takesBack : MethodName := ⟨RX11, "takesBack", "()V"⟩
abbrev cX11_isAhead : ByteArray := prog_13_method_63_code
def yX11_isAhead : MethodName := ⟨RX11, "isAhead", "(III)Z"⟩
abbrev cX11_bits : ByteArray := prog_13_method_64_code
def yX11_bits : MethodName := ⟨RX11, "bits", "(I)I"⟩
abbrev cX11_openMany : ByteArray := prog_13_method_65_code
def yX11_openMany : MethodName := ⟨RX11, "openMany", "()I"⟩
abbrev cX11_woolAll : ByteArray := prog_13_method_66_code
def yX11_woolAll : MethodName := ⟨RX11, "woolAll", "()I"⟩
abbrev cX11_has : ByteArray := prog_13_method_67_code
def yX11_has : MethodName := ⟨RX11, "has", "(I)I"⟩
abbrev cX11_letter : ByteArray := prog_13_method_68_code
def yX11_letter : MethodName := ⟨RX11, "letter", "(III)I"⟩
abbrev cX11_lure : ByteArray := prog_13_method_69_code
def yX11_lure : MethodName := ⟨RX11, "lure", "(I)I"⟩
abbrev cX11_gap : ByteArray := prog_13_method_70_code
def yX11_gap : MethodName := ⟨RX11, "gap", "(II)I"⟩
abbrev cX11_sheep : ByteArray := prog_13_method_71_code
def yX11_sheep : MethodName := ⟨RX11, "sheep", "(II)I"⟩
abbrev cX11_seen : ByteArray := prog_13_method_72_code
def yX11_seen : MethodName := ⟨RX11, "seen", "(II)I"⟩
abbrev cX11_strays : ByteArray := prog_13_method_73_code
def yX11_strays : MethodName := ⟨RX11, "strays", "(I)I"⟩
abbrev cX11_brings : ByteArray := prog_13_method_74_code
def yX11_brings : MethodName := ⟨RX11, "brings", "(I)I"⟩
abbrev cX11_kept : ByteArray := prog_13_method_75_code
def yX11_kept : MethodName := ⟨RX11, "kept", "(II)I"⟩
abbrev cX11_later : ByteArray := prog_13_method_76_code
def yX11_later : MethodName := ⟨RX11, "later", "(III)I"⟩
abbrev cX11_home : ByteArray := prog_13_method_77_code
def yX11_home : MethodName := ⟨RX11, "home", "(I)I"⟩
abbrev cX11_changes : ByteArray := prog_13_method_78_code
def yX11_changes : MethodName := ⟨RX11, "changes", "(I)V"⟩
abbrev cX11_gaps : ByteArray := prog_13_method_79_code
def yX11_gaps : MethodName := ⟨RX11, "gaps", "(III)I"⟩
abbrev cX11_rumour : ByteArray := prog_13_method_80_code
def yX11_rumour : MethodName := ⟨RX11, "rumour", "(II)I"⟩
abbrev cX11_isCheaper : ByteArray := prog_13_method_81_code
def yX11_isCheaper : MethodName := ⟨RX11, "isCheaper", "(III)Z"⟩
abbrev cX11_way : ByteArray := prog_13_method_82_code
def yX11_way : MethodName := ⟨RX11, "way", "(II)I"⟩
abbrev cX11_waits : ByteArray := prog_13_method_83_code
def yX11_waits : MethodName := ⟨RX11, "waits", "(III)I"⟩
abbrev cX11_milesBy : ByteArray := prog_13_method_84_code
def yX11_milesBy : MethodName := ⟨RX11, "milesBy", "(I)I"⟩
abbrev cX11_coat : ByteArray := prog_13_method_85_code
def yX11_coat : MethodName := ⟨RX11, "coat", "(I)I"⟩
abbrev cX11_watchers : ByteArray := prog_13_method_86_code
def yX11_watchers : MethodName := ⟨RX11, "watchers", "(I)I"⟩
abbrev cX11_watch : ByteArray := prog_13_method_87_code
def yX11_watch : MethodName := ⟨RX11, "watch", "(I)I"⟩
abbrev cX11_waysGo : ByteArray := prog_13_method_88_code
def yX11_waysGo : MethodName := ⟨RX11, "waysGo", "()V"⟩
abbrev cX11_ways : ByteArray := prog_13_method_89_code
def yX11_ways : MethodName := ⟨RX11, "ways", "(III)J"⟩
abbrev cX11_refuses : ByteArray := prog_13_method_90_code
def yX11_refuses : MethodName := ⟨RX11, "refuses", "(I)I"⟩
abbrev cX11_feel : ByteArray := prog_13_method_91_code
def yX11_feel : MethodName := ⟨RX11, "feel", "()I"⟩
abbrev cX11_isAsFelt : ByteArray := prog_13_method_92_code
def yX11_isAsFelt : MethodName := ⟨RX11, "isAsFelt", "(I)Z"⟩
abbrev cX11_curiousSet : ByteArray := prog_13_method_93_code
def yX11_curiousSet : MethodName := ⟨RX11, "curiousSet", "(I)I"⟩
abbrev cX11_curious : ByteArray := prog_13_method_94_code
def yX11_curious : MethodName := ⟨RX11, "curious", "(I)I"⟩
abbrev cX11_mostAlike : ByteArray := prog_13_method_95_code
def yX11_mostAlike : MethodName := ⟨RX11, "mostAlike", "(II)I"⟩
abbrev cX11_tells : ByteArray := prog_13_method_96_code
def yX11_tells : MethodName := ⟨RX11, "tells", "(II)I"⟩
abbrev cX11_keeps : ByteArray := prog_13_method_97_code
def yX11_keeps : MethodName := ⟨RX11, "keeps", "()V"⟩
abbrev cX11_undo : ByteArray := prog_13_method_98_code
def yX11_undo : MethodName := ⟨RX11, "undo", "()Z"⟩
abbrev cX11_shear : ByteArray := prog_13_method_99_code
def yX11_shear : MethodName := ⟨RX11, "shear", "(I)I"⟩
abbrev cX11_isRefused : ByteArray := prog_13_method_100_code
def yX11_isRefused : MethodName := ⟨RX11, "isRefused", "()Z"⟩
abbrev cX11_lead : ByteArray := prog_13_method_101_code
def yX11_lead : MethodName := ⟨RX11, "lead", "(II)Z"⟩
abbrev cX11_swing : ByteArray := prog_13_method_102_code
def yX11_swing : MethodName := ⟨RX11, "swing", "(II)Z"⟩
abbrev cX11_tell : ByteArray := prog_13_method_103_code
def yX11_tell : MethodName := ⟨RX11, "tell", "(III)Z"⟩
abbrev cX11_days : ByteArray := prog_13_method_104_code
def yX11_days : MethodName := ⟨RX11, "days", "(I)I"⟩
abbrev cX11_seed : ByteArray := prog_13_method_105_code
def yX11_seed : MethodName := ⟨RX11, "seed", "(I)Z"⟩
abbrev cX11_drawOf : ByteArray := prog_13_method_106_code
def yX11_drawOf : MethodName := ⟨RX11, "drawOf", "(I)I"⟩
abbrev cX11_chance : ByteArray := prog_13_method_107_code
def yX11_chance : MethodName := ⟨RX11, "chance", "(I)I"⟩
abbrev cX11_qCode : ByteArray := prog_13_method_108_code
def yX11_qCode : MethodName := ⟨RX11, "qCode", "(I)V"⟩
abbrev cX11_qOpens : ByteArray := prog_13_method_109_code
def yX11_qOpens : MethodName := ⟨RX11, "qOpens", "(II)V"⟩
abbrev cX11_qIsOn : ByteArray := prog_13_method_110_code
def yX11_qIsOn : MethodName := ⟨RX11, "qIsOn", "(I)Z"⟩
abbrev cX11_qDrops : ByteArray := prog_13_method_111_code
def yX11_qDrops : MethodName := ⟨RX11, "qDrops", "()V"⟩
abbrev cX11_qIsBracket : ByteArray := prog_13_method_112_code
def yX11_qIsBracket : MethodName := ⟨RX11, "qIsBracket", "(I)Z"⟩
abbrev cX11_qBracket : ByteArray := prog_13_method_113_code
def yX11_qBracket : MethodName := ⟨RX11, "qBracket", "()I"⟩
abbrev cX11_qDropsToBracket : ByteArray := prog_13_method_114_code
def yX11_qDropsToBracket : MethodName := ⟨RX11, "qDropsToBracket", "()V"⟩
abbrev cX11_qWordHere : ByteArray := prog_13_method_115_code
def yX11_qWordHere : MethodName := ⟨RX11, "qWordHere", "()I"⟩
abbrev cX11_qWordOf : ByteArray := prog_13_method_116_code
def yX11_qWordOf : MethodName := ⟨RX11, "qWordOf", "(II)I"⟩
abbrev cX11_qAsksWord : ByteArray := prog_13_method_117_code
def yX11_qAsksWord : MethodName := ⟨RX11, "qAsksWord", "(I)V"⟩
abbrev cX11_qEndsPart : ByteArray := prog_13_method_118_code
def yX11_qEndsPart : MethodName := ⟨RX11, "qEndsPart", "()V"⟩
abbrev cX11_qPartTold : ByteArray := prog_13_method_119_code
def yX11_qPartTold : MethodName := ⟨RX11, "qPartTold", "()V"⟩
abbrev cX11_qGoesOn : ByteArray := prog_13_method_120_code
def yX11_qGoesOn : MethodName := ⟨RX11, "qGoesOn", "()Z"⟩
abbrev cX11_qSums : ByteArray := prog_13_method_121_code
def yX11_qSums : MethodName := ⟨RX11, "qSums", "()V"⟩
abbrev cX11_qFact : ByteArray := prog_13_method_122_code
def yX11_qFact : MethodName := ⟨RX11, "qFact", "()V"⟩
abbrev cX11_qHasSquare : ByteArray := prog_13_method_123_code
def yX11_qHasSquare : MethodName := ⟨RX11, "qHasSquare", "()Z"⟩
abbrev cX11_qDropsNots : ByteArray := prog_13_method_124_code
def yX11_qDropsNots : MethodName := ⟨RX11, "qDropsNots", "()V"⟩
abbrev cX11_qTest : ByteArray := prog_13_method_125_code
def yX11_qTest : MethodName := ⟨RX11, "qTest", "()V"⟩
abbrev cX11_qGoesOnTest : ByteArray := prog_13_method_126_code
def yX11_qGoesOnTest : MethodName := ⟨RX11, "qGoesOnTest", "()Z"⟩
abbrev cX11_qClip : ByteArray := prog_13_method_127_code
def yX11_qClip : MethodName := ⟨RX11, "qClip", "(J)J"⟩
abbrev cX11_qFloor : ByteArray := prog_13_method_128_code
def yX11_qFloor : MethodName := ⟨RX11, "qFloor", "(JJ)J"⟩
abbrev cX11_qPuts : ByteArray := prog_13_method_129_code
def yX11_qPuts : MethodName := ⟨RX11, "qPuts", "(J)V"⟩
abbrev cX11_qJoins : ByteArray := prog_13_method_130_code
def yX11_qJoins : MethodName := ⟨RX11, "qJoins", "(I)V"⟩
abbrev cX11_qPartOf : ByteArray := prog_13_method_131_code
def yX11_qPartOf : MethodName := ⟨RX11, "qPartOf", "(II)J"⟩
abbrev cX11_qOf : ByteArray := prog_13_method_132_code
def yX11_qOf : MethodName := ⟨RX11, "qOf", "(IJI)J"⟩
abbrev cX11_qTold : ByteArray := prog_13_method_133_code
def yX11_qTold : MethodName := ⟨RX11, "qTold", "(I)J"⟩
abbrev cX11_qKind : ByteArray := prog_13_method_134_code
def yX11_qKind : MethodName := ⟨RX11, "qKind", "()I"⟩
abbrev cX11_qTakes : ByteArray := prog_13_method_135_code
def yX11_qTakes : MethodName := ⟨RX11, "qTakes", "(IJI)V"⟩
abbrev cX11_ask : ByteArray := prog_13_method_136_code
def yX11_ask : MethodName := ⟨RX11, "ask", "()J"⟩
abbrev cX11_checked : ByteArray := prog_13_method_137_code
def yX11_checked : MethodName := ⟨RX11, "checked", "([II)I"⟩
abbrev cX11_writes : ByteArray := prog_13_method_138_code
def yX11_writes : MethodName := ⟨RX11, "writes", "(I)V"⟩
abbrev cX11_writesTwo : ByteArray := prog_13_method_139_code
def yX11_writesTwo : MethodName := ⟨RX11, "writesTwo", "(I)V"⟩
abbrev cX11_image : ByteArray := prog_13_method_140_code
def yX11_image : MethodName := ⟨RX11, "image", "()I"⟩
abbrev cX11_octet : ByteArray := prog_13_method_141_code
def yX11_octet : MethodName := ⟨RX11, "octet", "(I)I"⟩
abbrev cX11_twoAt : ByteArray := prog_13_method_142_code
def yX11_twoAt : MethodName := ⟨RX11, "twoAt", "(I)I"⟩
abbrev cX11_isSheepTold : ByteArray := prog_13_method_143_code
def yX11_isSheepTold : MethodName := ⟨RX11, "isSheepTold", "(I)Z"⟩
abbrev cX11_isImage : ByteArray := prog_13_method_144_code
def yX11_isImage : MethodName := ⟨RX11, "isImage", "(I)Z"⟩
abbrev cX11_on : ByteArray := prog_13_method_145_code
def yX11_on : MethodName := ⟨RX11, "on", "()Z"⟩
abbrev cX11_status : ByteArray := prog_13_method_146_code
def yX11_status : MethodName := ⟨RX11, "status", "(I)I"⟩
def RJ6 : String := "java/lang/Integer"
abbrev cJ6_bitCount_0f7a4 : ByteArray := prog_14_method_49_code
def yJ6_bitCount_0f7a4 : MethodName := ⟨RJ6, "bitCount", "(I)I"⟩
def RJ9 : String := "java/lang/Math"
abbrev cJ9_floorDiv_7cf53 : ByteArray := prog_15_method_47_code
def yJ9_floorDiv_7cf53 : MethodName := ⟨RJ9, "floorDiv", "(II)I"⟩
abbrev cJ9_max_7cf53 : ByteArray := prog_15_method_65_code
def yJ9_max_7cf53 : MethodName := ⟨RJ9, "max", "(II)I"⟩
abbrev cJ9_max_f86c9 : ByteArray := prog_15_method_66_code
def yJ9_max_f86c9 : MethodName := ⟨RJ9, "max", "(JJ)J"⟩
abbrev cJ9_min_7cf53 : ByteArray := prog_15_method_69_code
def yJ9_min_7cf53 : MethodName := ⟨RJ9, "min", "(II)I"⟩
abbrev cJ9_min_f86c9 : ByteArray := prog_15_method_70_code
def yJ9_min_f86c9 : MethodName := ⟨RJ9, "min", "(JJ)J"⟩
def RJ0 : String := "java/lang/String"
abbrev cJ0_length_8abf5 : ByteArray := prog_16_method_54_code
def yJ0_length_8abf5 : MethodName := ⟨RJ0, "length", "()I"⟩
abbrev cJ0_charAt_5068e : ByteArray := prog_16_method_56_code
def yJ0_charAt_5068e : MethodName := ⟨RJ0, "charAt", "(I)C"⟩
abbrev cJ0_coder_7d493 : ByteArray := prog_16_method_152_code
def yJ0_coder_7d493 : MethodName := ⟨RJ0, "coder", "()B"⟩
abbrev cJ0_isLatin1_aae02 : ByteArray := prog_16_method_154_code
def yJ0_isLatin1_aae02 : MethodName := ⟨RJ0, "isLatin1", "()Z"⟩
abbrev cJ0_checkIndex_df160 : ByteArray := prog_16_method_155_code
def yJ0_checkIndex_df160 : MethodName := ⟨RJ0, "checkIndex", "(II)V"⟩
def RJ1 : String := "java/lang/StringLatin1"
abbrev cJ1_charAt_3b067 : ByteArray := prog_17_method_2_code
def yJ1_charAt_3b067 : MethodName := ⟨RJ1, "charAt", "([BI)C"⟩
def RJ2 : String := "java/lang/StringUTF16"
abbrev cJ2_getChar_3b067 : ByteArray := prog_18_method_5_code
def yJ2_getChar_3b067 : MethodName := ⟨RJ2, "getChar", "([BI)C"⟩
abbrev cJ2_length_9d52b : ByteArray := prog_18_method_6_code
def yJ2_length_9d52b : MethodName := ⟨RJ2, "length", "([B)I"⟩
abbrev cJ2_charAt_3b067 : ByteArray := prog_18_method_83_code
def yJ2_charAt_3b067 : MethodName := ⟨RJ2, "charAt", "([BI)C"⟩
abbrev cJ2_checkIndex_2214a : ByteArray := prog_18_method_91_code
def yJ2_checkIndex_2214a : MethodName := ⟨RJ2, "checkIndex", "(I[B)V"⟩
def RJ10 : String := "java/lang/System"
def RJ7 : String := "java/util/Arrays"
abbrev cJ7_fill_d0a16 : ByteArray := prog_20_method_101_code
def yJ7_fill_d0a16 : MethodName := ⟨RJ7, "fill", "([JJ)V"⟩
abbrev cJ7_fill_53178 : ByteArray := prog_20_method_103_code
def yJ7_fill_53178 : MethodName := ⟨RJ7, "fill", "([II)V"⟩
def RJ3 : String := "jdk/internal/util/Preconditions"
abbrev cJ3_checkIndex_8e157 : ByteArray := prog_21_method_11_code
def yJ3_checkIndex_8e157 : MethodName := ⟨RJ3, "checkIndex", "(IILjava/util/function/BiFunction;)I"⟩
abbrev vwCl : List vw_C := [(RX0, TX0, 2), (RX1, TX1, 12), (RX2, TX2, 3), (RX3, TX3, 4), (RX4, TX4, 3), (RX5, TX5, 4), (RX6, TX6, 7), (RX7, TX7, 3), (RX8, TX8, 12), (RX9, TX9, 18), (RX10, TX10, 14), (RX11, TX11, 106)]
theorem sw_inOf {C : String} {T : u_T} {N : Nat} (ps : List Nat) (h : ps.map (fun i => lw_tbl[i]?) = (u_ws C T N).map some) : ∀ w ∈ u_ws C T N, w ∈ lw_tbl := by
  intro w hw
  have h1 : some w ∈ (u_ws C T N).map some := List.mem_map.mpr ⟨w, hw, rfl⟩
  rw [← h] at h1
  obtain ⟨i, -, hi⟩ := List.mem_map.mp h1
  exact List.mem_of_getElem? hi
set_option maxRecDepth 100000 in
theorem inX0 : ∀ w ∈ u_ws RX0 TX0 2, w ∈ lw_tbl := sw_inOf [202, 204] (by decide +kernel)
set_option maxRecDepth 100000 in
theorem inX1 : ∀ w ∈ u_ws RX1 TX1 12, w ∈ lw_tbl := sw_inOf [487, 489, 491, 493, 495, 497, 499, 501, 503, 505, 507, 509] (by decide +kernel)
set_option maxRecDepth 100000 in
theorem inX2 : ∀ w ∈ u_ws RX2 TX2 3, w ∈ lw_tbl := sw_inOf [385, 387, 389] (by decide +kernel)
set_option maxRecDepth 100000 in
theorem inX3 : ∀ w ∈ u_ws RX3 TX3 4, w ∈ lw_tbl := sw_inOf [345, 347, 349, 351] (by decide +kernel)
set_option maxRecDepth 100000 in
theorem inX4 : ∀ w ∈ u_ws RX4 TX4 3, w ∈ lw_tbl := sw_inOf [526, 528, 530] (by decide +kernel)
set_option maxRecDepth 100000 in
theorem inX5 : ∀ w ∈ u_ws RX5 TX5 4, w ∈ lw_tbl := sw_inOf [545, 547, 549, 551] (by decide +kernel)
set_option maxRecDepth 100000 in
theorem inX6 : ∀ w ∈ u_ws RX6 TX6 7, w ∈ lw_tbl := sw_inOf [173, 175, 177, 179, 181, 183, 185] (by decide +kernel)
set_option maxRecDepth 100000 in
theorem inX7 : ∀ w ∈ u_ws RX7 TX7 3, w ∈ lw_tbl := sw_inOf [373, 375, 377] (by decide +kernel)
set_option maxRecDepth 100000 in
theorem inX8 : ∀ w ∈ u_ws RX8 TX8 12, w ∈ lw_tbl := sw_inOf [443, 445, 447, 449, 451, 453, 455, 457, 459, 461, 463, 465] (by decide +kernel)
set_option maxRecDepth 100000 in
theorem inX9 : ∀ w ∈ u_ws RX9 TX9 18, w ∈ lw_tbl := sw_inOf [298, 300, 302, 304, 306, 308, 310, 312, 314, 316, 318, 320, 322, 324, 326, 328, 330, 332] (by decide +kernel)
set_option maxRecDepth 100000 in
theorem inX10 : ∀ w ∈ u_ws RX10 TX10 14, w ∈ lw_tbl := sw_inOf [568, 570, 572, 574, 576, 578, 580, 582, 584, 586, 588, 590, 592, 594] (by decide +kernel)
set_option maxRecDepth 100000 in
theorem inX11 : ∀ w ∈ u_ws RX11 TX11 106, w ∈ lw_tbl := sw_inOf [1361, 1363, 1365, 1367, 1369, 1371, 1373, 1375, 1377, 1379, 1381, 1383, 1385, 1387, 1389, 1391, 1393, 1395, 1397, 1399, 1401, 1403, 1405, 1407, 1409, 1411, 1413, 1415, 1417, 1419, 1421, 1423, 1425, 1427, 1429, 1431, 1433, 1435, 1437, 1439, 1441, 1443, 1445, 1447, 1449, 1451, 1453, 1455, 1457, 1459, 1461, 1463, 1465, 1467, 1469, 1471, 1473, 1475, 1477, 1479, 1481, 1483, 1485, 1487, 1489, 1491, 1493, 1495, 1497, 1499, 1501, 1503, 1505, 1507, 1509, 1511, 1513, 1515, 1517, 1519, 1521, 1523, 1525, 1527, 1529, 1531, 1533, 1535, 1537, 1539, 1541, 1543, 1545, 1547, 1549, 1551, 1553, 1555, 1557, 1559, 1561, 1563, 1565, 1567, 1569, 1571] (by decide +kernel)
end
section
/-! Data of the small machine: names of classes, kinds of fields, shapes of the two worlds, what the pools hold. -/
def sw_cn : List String := [RX0, RX1, RX2, RX3, RX4, RX5, RX6, RX7, RX8, RX9, RX10, RX11, "java/lang/Integer", "java/lang/Math", "java/util/Arrays"]
def sw_nm (c : Nat) : String := sw_cn.getD c ""
/-- kinds of fields, a row a class: 0 int, 1 boolean, 2 long, 3 a reference that changes, 4 + n the cell n places on, 1000 + n the cell n -/
def sw_kds : List (List Nat) := [[5, 0],
  [1033, 1038, 1046, 1055, 0, 0, 1056, 1057, 1058, 1059, 3, 3],
  [3, 1034, 1037],
  [1002, 3, 3, 0],
  [1063, 0, 0],
  [1225, 0, 0, 1],
  [3, 0, 0, 0, 0, 0, 0],
  [1035, 1036, 0],
  [0, 0, 0, 5, 6, 7, 8, 9, 10, 11, 0, 0],
  [0, 0, 0, 0, 0, 0, 0, 5, 6, 7, 8, 9, 10, 11, 12, 13, 15, 16],
  [1001, 0, 1002, 1004, 3, 1032, 1033, 1038, 1046, 1054, 1062, 1224, 1226, 0],
  [1001, 0, 0, 0, 0, 0, 0, 0, 0, 1002, 0, 1003, 1004, 1005, 1006, 1007, 1008, 1009, 1010, 1011, 1012, 1013, 1014, 1015, 1016, 1017, 1018, 1019, 1020, 1021, 1022, 1023, 1024, 1025, 1026, 1027, 0, 1028, 1029, 1030, 1031, 1032, 1033, 1034, 1035, 1036, 0, 0, 0, 1037, 1038, 1039, 0, 0, 0, 0, 0, 1040, 1, 0, 1041, 1042, 1043, 0, 1044, 1045, 1046, 0, 0, 2, 1047, 1048, 1049, 1050, 1051, 1052, 1053, 1054, 1055, 1056, 1057, 1058, 1059, 1060, 1061, 1062, 1063, 1064, 1065, 1066, 1067, 1068, 1069, 1070, 1071, 0, 1072, 0, 0, 0, 1073, 0, 2, 1, 1074, 0]]
def sw_kd (c k : Nat) : Nat := (sw_kds.getD c []).getD k 9
def sw_nf (c : Nat) : Nat := (sw_kds.getD c []).length
def sw_shX : List (Nat ⊕ (Nat × Nat)) := [.inl 10, .inr (1, 1600), .inl 6, .inr (1, 0), .inl 0, .inr (0, 1608), .inl 9, .inr (0, 8), .inr (0, 8), .inr (0, 10), .inr (0, 10), .inr (0, 10), .inr (0, 6), .inr (0, 6), .inr (0, 6), .inl 0, .inr (0, 1608), .inr (0, 3), .inr (0, 3), .inl 9, .inr (0, 8), .inr (0, 8), .inr (0, 10), .inr (0, 10), .inr (0, 10), .inr (0, 6), .inr (0, 6), .inr (0, 6), .inl 0, .inr (0, 1608), .inr (0, 3), .inr (0, 3), .inl 3, .inl 2, .inl 7, .inr (0, 10), .inr (0, 256), .inr (0, 10), .inl 8, .inr (0, 6), .inr (0, 6), .inr (0, 6), .inr (0, 6), .inr (0, 6), .inr (0, 48), .inr (0, 40), .inl 8, .inr (0, 6), .inr (0, 6), .inr (0, 6), .inr (0, 6), .inr (0, 6), .inr (0, 48), .inr (0, 40), .inl 1, .inr (0, 48), .inr (0, 210), .inr (0, 310), .inr (0, 8), .inr (0, 8), .inr (3, 512), .inr (3, 512), .inl 4, .inr (4, 20), .inl 8, .inr (0, 6), .inr (0, 6), .inr (0, 6), .inr (0, 6), .inr (0, 6), .inr (0, 48), .inr (0, 40), .inl 8, .inr (0, 6), .inr (0, 6), .inr (0, 6), .inr (0, 6), .inr (0, 6), .inr (0, 48), .inr (0, 40), .inl 8, .inr (0, 6), .inr (0, 6), .inr (0, 6), .inr (0, 6), .inr (0, 6), .inr (0, 48), .inr (0, 40), .inl 8, .inr (0, 6), .inr (0, 6), .inr (0, 6), .inr (0, 6), .inr (0, 6), .inr (0, 48), .inr (0, 40), .inl 8, .inr (0, 6), .inr (0, 6), .inr (0, 6), .inr (0, 6), .inr (0, 6), .inr (0, 48), .inr (0, 40), .inl 8, .inr (0, 6), .inr (0, 6), .inr (0, 6), .inr (0, 6), .inr (0, 6), .inr (0, 48), .inr (0, 40), .inl 8, .inr (0, 6), .inr (0, 6), .inr (0, 6), .inr (0, 6), .inr (0, 6), .inr (0, 48), .inr (0, 40), .inl 8, .inr (0, 6), .inr (0, 6), .inr (0, 6), .inr (0, 6), .inr (0, 6), .inr (0, 48), .inr (0, 40), .inl 8, .inr (0, 6), .inr (0, 6), .inr (0, 6), .inr (0, 6), .inr (0, 6), .inr (0, 48), .inr (0, 40), .inl 8, .inr (0, 6), .inr (0, 6), .inr (0, 6), .inr (0, 6), .inr (0, 6), .inr (0, 48), .inr (0, 40), .inl 8, .inr (0, 6), .inr (0, 6), .inr (0, 6), .inr (0, 6), .inr (0, 6), .inr (0, 48), .inr (0, 40), .inl 8, .inr (0, 6), .inr (0, 6), .inr (0, 6), .inr (0, 6), .inr (0, 6), .inr (0, 48), .inr (0, 40), .inl 8, .inr (0, 6), .inr (0, 6), .inr (0, 6), .inr (0, 6), .inr (0, 6), .inr (0, 48), .inr (0, 40), .inl 8, .inr (0, 6), .inr (0, 6), .inr (0, 6), .inr (0, 6), .inr (0, 6), .inr (0, 48), .inr (0, 40), .inl 8, .inr (0, 6), .inr (0, 6), .inr (0, 6), .inr (0, 6), .inr (0, 6), .inr (0, 48), .inr (0, 40), .inl 8, .inr (0, 6), .inr (0, 6), .inr (0, 6), .inr (0, 6), .inr (0, 6), .inr (0, 48), .inr (0, 40), .inl 8, .inr (0, 6), .inr (0, 6), .inr (0, 6), .inr (0, 6), .inr (0, 6), .inr (0, 48), .inr (0, 40), .inl 8, .inr (0, 6), .inr (0, 6), .inr (0, 6), .inr (0, 6), .inr (0, 6), .inr (0, 48), .inr (0, 40), .inl 8, .inr (0, 6), .inr (0, 6), .inr (0, 6), .inr (0, 6), .inr (0, 6), .inr (0, 48), .inr (0, 40), .inl 8, .inr (0, 6), .inr (0, 6), .inr (0, 6), .inr (0, 6), .inr (0, 6), .inr (0, 48), .inr (0, 40), .inl 5, .inr (1, 94), .inr (0, 6)]
def sw_shM : List (Nat ⊕ (Nat × Nat)) := [.inl 11, .inr (0, 1600), .inr (0, 6), .inr (2, 5), .inr (2, 4), .inr (2, 3), .inr (2, 2), .inr (2, 5), .inr (2, 4), .inr (2, 5), .inr (2, 2), .inr (2, 7), .inr (2, 5), .inr (2, 5), .inr (2, 5), .inr (2, 5), .inr (2, 4), .inr (2, 3), .inr (2, 4), .inr (2, 5), .inr (2, 3), .inr (2, 6), .inr (2, 2), .inr (2, 3), .inr (2, 3), .inr (2, 3), .inr (2, 3), .inr (2, 3), .inr (0, 8), .inr (3, 32), .inr (0, 16), .inr (0, 60), .inr (0, 10), .inr (0, 24), .inr (0, 6), .inr (0, 6), .inr (0, 3200), .inr (0, 245), .inr (0, 84), .inr (0, 6), .inr (3, 60), .inr (0, 8), .inr (3, 512), .inr (3, 512), .inr (0, 48), .inr (0, 1860), .inr (0, 4900), .inr (2, 5), .inr (2, 4), .inr (2, 5), .inr (2, 5), .inr (2, 4), .inr (2, 5), .inr (2, 3), .inr (2, 3), .inr (2, 2), .inr (2, 3), .inr (2, 3), .inr (2, 3), .inr (2, 7), .inr (2, 4), .inr (2, 3), .inr (2, 4), .inr (2, 4), .inr (2, 5), .inr (2, 5), .inr (2, 3), .inr (2, 6), .inr (2, 2), .inr (2, 4), .inr (2, 5), .inr (0, 1700), .inr (0, 1700), .inr (3, 1700), .inr (0, 94)]
/-- fields as the pools name them: class, number, the field's class, its slot, the place of the word -/
def sw_ff : List (Nat × Nat × Nat × Nat × Nat) := [(6, 9, 6, 0, 161), (6, 28, 6, 1, 162), (3, 165, 6, 1, 163), (6, 15, 6, 2, 164), (3, 39, 6, 2, 165), (3, 45, 6, 3, 166), (6, 40, 6, 3, 167), (6, 31, 6, 4, 168), (6, 34, 6, 5, 169), (10, 126, 6, 5, 170), (6, 19, 6, 6, 171), (10, 129, 6, 6, 172), (0, 9, 0, 0, 195), (7, 34, 0, 0, 196), (2, 137, 0, 0, 197), (0, 15, 0, 1, 198), (9, 74, 0, 1, 199), (3, 60, 0, 1, 200), (2, 132, 0, 1, 201), (9, 52, 9, 0, 228), (3, 42, 9, 0, 229), (10, 123, 9, 0, 230), (9, 56, 9, 1, 231), (5, 55, 9, 1, 232), (3, 95, 9, 1, 233), (10, 132, 9, 1, 234), (1, 141, 9, 1, 235), (2, 144, 9, 1, 236), (9, 59, 9, 2, 237), (5, 31, 9, 2, 238), (3, 113, 9, 2, 239), (2, 86, 9, 2, 240), (10, 135, 9, 2, 241), (1, 129, 9, 2, 242), (9, 62, 9, 3, 243), (8, 60, 9, 3, 244), (5, 39, 9, 3, 245), (10, 138, 9, 3, 246), (3, 132, 9, 3, 247), (1, 132, 9, 3, 248), (2, 101, 9, 3, 249), (9, 65, 9, 4, 250), (3, 153, 9, 4, 251), (10, 330, 9, 4, 252), (8, 40, 9, 5, 253), (9, 68, 9, 5, 254), (3, 129, 9, 5, 255), (9, 71, 9, 6, 256), (3, 144, 9, 6, 257), (9, 9, 9, 7, 258), (3, 106, 9, 7, 259), (10, 168, 9, 7, 260), (9, 15, 9, 8, 261), (2, 53, 9, 8, 262), (3, 110, 9, 8, 263), (10, 177, 9, 8, 264), (9, 18, 9, 9, 265), (3, 120, 9, 9, 266), (10, 183, 9, 9, 267), (1, 144, 9, 9, 268), (9, 21, 9, 10, 269), (3, 123, 9, 10, 270), (10, 186, 9, 10, 271), (1, 147, 9, 10, 272), (9, 24, 9, 11, 273), (3, 126, 9, 11, 274), (2, 93, 9, 11, 275), (10, 189, 9, 11, 276), (1, 150, 9, 11, 277), (9, 27, 9, 12, 278), (10, 174, 9, 12, 279), (3, 135, 9, 12, 280), (9, 30, 9, 13, 281), (8, 63, 9, 13, 282), (1, 78, 9, 13, 283), (3, 138, 9, 13, 284), (10, 207, 9, 13, 285), (9, 33, 9, 14, 286), (8, 66, 9, 14, 287), (3, 141, 9, 14, 288), (3, 23, 9, 15, 289), (9, 39, 9, 15, 290), (7, 30, 9, 15, 291), (9, 43, 9, 16, 292), (7, 22, 9, 16, 293), (3, 147, 9, 16, 294), (9, 46, 9, 17, 295), (7, 27, 9, 17, 296), (3, 150, 9, 17, 297), (3, 15, 3, 0, 341), (3, 19, 3, 1, 342), (3, 29, 3, 2, 343), (3, 9, 3, 3, 344), (7, 9, 7, 0, 368), (2, 29, 7, 0, 369), (7, 15, 7, 1, 370), (7, 18, 7, 2, 371), (2, 129, 7, 2, 372), (2, 12, 2, 0, 380), (10, 110, 2, 0, 381), (1, 74, 2, 0, 382), (2, 21, 2, 1, 383), (2, 25, 2, 2, 384), (8, 33, 8, 0, 398), (5, 19, 8, 0, 399), (2, 40, 8, 0, 400), (1, 57, 8, 0, 401), (10, 141, 8, 0, 402), (8, 37, 8, 1, 403), (5, 28, 8, 1, 404), (10, 152, 8, 1, 405), (8, 45, 8, 2, 406), (5, 36, 8, 2, 407), (2, 59, 8, 2, 408), (1, 94, 8, 2, 409), (10, 144, 8, 2, 410), (8, 9, 8, 3, 411), (2, 50, 8, 3, 412), (5, 42, 8, 3, 413), (1, 71, 8, 3, 414), (10, 192, 8, 3, 415), (8, 15, 8, 4, 416), (2, 37, 8, 4, 417), (5, 46, 8, 4, 418), (1, 115, 8, 4, 419), (10, 198, 8, 4, 420), (8, 18, 8, 5, 421), (2, 44, 8, 5, 422), (5, 49, 8, 5, 423), (1, 118, 8, 5, 424), (10, 201, 8, 5, 425), (8, 21, 8, 6, 426), (2, 47, 8, 6, 427), (5, 52, 8, 6, 428), (10, 204, 8, 6, 429), (8, 24, 8, 7, 430), (2, 32, 8, 7, 431), (10, 195, 8, 7, 432), (1, 180, 8, 7, 433), (8, 27, 8, 8, 434), (5, 58, 8, 8, 435), (2, 56, 8, 8, 436), (1, 112, 8, 8, 437), (10, 210, 8, 8, 438), (8, 30, 8, 9, 439), (8, 48, 8, 10, 440), (8, 51, 8, 11, 441), (10, 158, 8, 11, 442), (1, 34, 1, 0, 474), (1, 38, 1, 1, 475), (1, 42, 1, 2, 476), (1, 9, 1, 3, 477), (10, 120, 1, 4, 478), (1, 177, 1, 4, 479), (1, 83, 1, 5, 480), (1, 15, 1, 6, 481), (1, 18, 1, 7, 482), (1, 21, 1, 8, 483), (1, 24, 1, 9, 484), (1, 27, 1, 10, 485), (1, 31, 1, 11, 486), (4, 11, 4, 0, 522), (4, 22, 4, 1, 523), (4, 18, 4, 2, 524), (10, 161, 4, 2, 525), (5, 9, 5, 0, 539), (10, 317, 5, 0, 540), (5, 15, 5, 1, 541), (10, 314, 5, 1, 542), (5, 65, 5, 2, 543), (5, 68, 5, 3, 544), (10, 9, 10, 0, 554), (10, 91, 10, 1, 555), (10, 16, 10, 2, 556), (10, 23, 10, 3, 557), (10, 30, 10, 4, 558), (10, 39, 10, 5, 559), (10, 46, 10, 6, 560), (10, 53, 10, 7, 561), (10, 57, 10, 8, 562), (10, 65, 10, 9, 563), (10, 72, 10, 10, 564), (10, 79, 10, 11, 565), (10, 83, 10, 12, 566), (10, 87, 10, 13, 567), (11, 7, 11, 0, 1255), (11, 245, 11, 1, 1256), (11, 254, 11, 2, 1257), (11, 257, 11, 3, 1258), (11, 268, 11, 4, 1259), (11, 248, 11, 5, 1260), (11, 251, 11, 6, 1261), (11, 382, 11, 7, 1262), (11, 13, 11, 8, 1263), (11, 17, 11, 9, 1264), (11, 288, 11, 10, 1265), (11, 20, 11, 11, 1266), (11, 24, 11, 12, 1267), (11, 27, 11, 13, 1268), (11, 30, 11, 14, 1269), (11, 33, 11, 15, 1270), (11, 36, 11, 16, 1271), (11, 39, 11, 17, 1272), (11, 42, 11, 18, 1273), (11, 45, 11, 19, 1274), (11, 48, 11, 20, 1275), (11, 51, 11, 21, 1276), (11, 54, 11, 22, 1277), (11, 57, 11, 23, 1278), (11, 60, 11, 24, 1279), (11, 63, 11, 25, 1280), (11, 66, 11, 26, 1281), (11, 69, 11, 27, 1282), (11, 72, 11, 28, 1283), (11, 75, 11, 29, 1284), (11, 78, 11, 30, 1285), (11, 81, 11, 31, 1286), (11, 84, 11, 32, 1287), (11, 87, 11, 33, 1288), (11, 90, 11, 34, 1289), (11, 93, 11, 35, 1290), (11, 299, 11, 36, 1291), (11, 96, 11, 37, 1292), (11, 99, 11, 38, 1293), (11, 103, 11, 39, 1294), (11, 106, 11, 40, 1295), (11, 109, 11, 41, 1296), (11, 112, 11, 42, 1297), (11, 115, 11, 43, 1298), (11, 118, 11, 44, 1299), (11, 121, 11, 45, 1300), (11, 354, 11, 46, 1301), (11, 357, 11, 47, 1302), (11, 306, 11, 48, 1303), (11, 124, 11, 49, 1304), (11, 127, 11, 50, 1305), (11, 130, 11, 51, 1306), (11, 133, 11, 52, 1307), (11, 403, 11, 53, 1308), (11, 415, 11, 54, 1309), (11, 435, 11, 55, 1310), (11, 441, 11, 56, 1311), (11, 136, 11, 57, 1312), (11, 470, 11, 58, 1313), (11, 480, 11, 59, 1314), (11, 139, 11, 60, 1315), (11, 142, 11, 61, 1316), (11, 145, 11, 62, 1317), (11, 391, 11, 63, 1318), (11, 148, 11, 64, 1319), (11, 151, 11, 65, 1320), (11, 154, 11, 66, 1321), (11, 388, 11, 67, 1322), (11, 580, 11, 68, 1323), (11, 157, 11, 69, 1324), (11, 161, 11, 70, 1325), (11, 164, 11, 71, 1326), (11, 167, 11, 72, 1327), (11, 170, 11, 73, 1328), (11, 173, 11, 74, 1329), (11, 176, 11, 75, 1330), (11, 179, 11, 76, 1331), (11, 182, 11, 77, 1332), (11, 185, 11, 78, 1333), (11, 188, 11, 79, 1334), (11, 191, 11, 80, 1335), (11, 194, 11, 81, 1336), (11, 197, 11, 82, 1337), (11, 200, 11, 83, 1338), (11, 203, 11, 84, 1339), (11, 206, 11, 85, 1340), (11, 209, 11, 86, 1341), (11, 212, 11, 87, 1342), (11, 215, 11, 88, 1343), (11, 218, 11, 89, 1344), (11, 221, 11, 90, 1345), (11, 224, 11, 91, 1346), (11, 227, 11, 92, 1347), (11, 230, 11, 93, 1348), (11, 233, 11, 94, 1349), (11, 336, 11, 95, 1350), (11, 236, 11, 96, 1351), (11, 339, 11, 97, 1352), (11, 342, 11, 98, 1353), (11, 345, 11, 99, 1354), (11, 239, 11, 100, 1355), (11, 418, 11, 101, 1356), (11, 673, 11, 102, 1357), (11, 678, 11, 103, 1358), (11, 242, 11, 104, 1359), (11, 692, 11, 105, 1360)]
def sw_ci : List (Nat × Nat × Int32 × Nat) := [(12, 265, 1431655765, 821), (12, 266, 858993459, 822), (12, 267, 252645135, 823), (7, 65, 1000000, 893), (7, 68, -1000000, 895), (10, 277, 99999, 1126), (5, 76, 99999, 1243), (11, 586, 99999, 2068), (11, 701, 65536, 2139)]
def sw_cl : List (Nat × Nat × Int64 × Nat) := [(7, 63, 1000000, 892), (7, 66, -1000000, 894), (10, 254, -1000000000000000, 1064), (10, 333, 1103515245, 1170), (10, 335, 12345, 1171), (10, 337, 2147483647, 1172), (2, 118, -1, 1197), (11, 302, 27, 1630), (11, 304, 97, 1631), (11, 309, 6, 1702), (11, 311, 7, 1703), (11, 501, 5, 1799), (11, 510, 3, 1816), (11, 657, 1000000, 1888), (11, 659, -1000000, 1889), (11, 456, 9999, 1917), (11, 530, 2, 1930), (11, 559, 12, 2021), (11, 561, 63, 2022), (11, 563, -1000000000000000, 2023), (11, 590, 99, 2085), (11, 592, 1103515245, 2102), (11, 594, 12345, 2103), (11, 596, 2147483648, 2104), (11, 598, 64, 2105), (11, 676, -1, 2114)]
def sw_ffW (q : Nat × Nat × Nat × Nat × Nat) : Cond := match vwCl[q.2.2.1]? with
  | some C => .fieldLink (sw_nm q.1) q.2.1 (C.2.1 q.2.2.2.1).1 (C.2.1 q.2.2.2.1).2.1 (C.2.1 q.2.2.2.1).2.2.1
  | none => .tt
set_option maxRecDepth 1000000 in
theorem sw_ff_ok : (sw_ff.all fun q => decide (lw_tbl[q.2.2.2.2]? = some (sw_ffW q)) && goodWord (sw_ffW q) && decide (q.2.2.2.1 < (vwCl.getD q.2.2.1 (RX0, TX0, 0)).2.2)) = true := by decide +kernel
set_option maxRecDepth 1000000 in
theorem sw_ci_ok : (sw_ci.all fun q => decide (lw_tbl[q.2.2.2]? = some (.constant (sw_nm q.1) q.2.1 q.2.2.1)) && goodWord (.constant (sw_nm q.1) q.2.1 q.2.2.1)) = true := by decide +kernel
set_option maxRecDepth 1000000 in
theorem sw_cl_ok : (sw_cl.all fun q => decide (lw_tbl[q.2.2.2]? = some (.constantLong (sw_nm q.1) q.2.1 q.2.2.1)) && goodWord (.constantLong (sw_nm q.1) q.2.1 q.2.2.1)) = true := by decide +kernel
/-- the words that stay good over calls -/
def sw_T : List Cond := lw_tbl.filter goodWord
theorem sw_T_of {w : Cond} (h : w ∈ lw_tbl) (hg : goodWord w = true) : w ∈ sw_T := List.mem_filter.mpr ⟨h, hg⟩
theorem sw_T_at {w : Cond} (i : Nat) (h : (decide (lw_tbl[i]? = some w) && goodWord w) = true) : w ∈ sw_T := by
  simp only [Bool.and_eq_true, decide_eq_true_eq] at h
  exact sw_T_of (List.mem_of_getElem? h.1) h.2
theorem sw_T_in {C : String} {T : u_T} {N : Nat} (h : ∀ w ∈ u_ws C T N, w ∈ lw_tbl) (hg : (u_ws C T N).all goodWord = true) : ∀ w ∈ u_ws C T N, w ∈ sw_T := fun w hw => sw_T_of (h w hw) (List.all_eq_true.mp hg w hw)
theorem sw_in0 : ∀ w ∈ u_ws RX0 TX0 2, w ∈ sw_T := sw_T_in inX0 (by decide +kernel)
theorem sw_in1 : ∀ w ∈ u_ws RX1 TX1 12, w ∈ sw_T := sw_T_in inX1 (by decide +kernel)
theorem sw_in2 : ∀ w ∈ u_ws RX2 TX2 3, w ∈ sw_T := sw_T_in inX2 (by decide +kernel)
theorem sw_in3 : ∀ w ∈ u_ws RX3 TX3 4, w ∈ sw_T := sw_T_in inX3 (by decide +kernel)
theorem sw_in4 : ∀ w ∈ u_ws RX4 TX4 3, w ∈ sw_T := sw_T_in inX4 (by decide +kernel)
theorem sw_in5 : ∀ w ∈ u_ws RX5 TX5 4, w ∈ sw_T := sw_T_in inX5 (by decide +kernel)
theorem sw_in6 : ∀ w ∈ u_ws RX6 TX6 7, w ∈ sw_T := sw_T_in inX6 (by decide +kernel)
theorem sw_in7 : ∀ w ∈ u_ws RX7 TX7 3, w ∈ sw_T := sw_T_in inX7 (by decide +kernel)
theorem sw_in8 : ∀ w ∈ u_ws RX8 TX8 12, w ∈ sw_T := sw_T_in inX8 (by decide +kernel)
theorem sw_in9 : ∀ w ∈ u_ws RX9 TX9 18, w ∈ sw_T := sw_T_in inX9 (by decide +kernel)
theorem sw_in10 : ∀ w ∈ u_ws RX10 TX10 14, w ∈ sw_T := sw_T_in inX10 (by decide +kernel)
theorem sw_in11 : ∀ w ∈ u_ws RX11 TX11 106, w ∈ sw_T := sw_T_in inX11 (by decide +kernel)
theorem sw_nf_ok : ∀ c, c < 12 → (vwCl.getD c (RX0, TX0, 0)).2.2 = sw_nf c := by decide +kernel
/-- the types of the fields, by their kinds -/
def sw_fit (c k : Nat) : Bool := match vwCl[c]? with
  | none => true
  | some C => match sw_kd c k with
    | 0 => decide (parseFieldDescriptor (C.2.1 k).2.2.1 = some .int) && !(C.2.1 k).2.2.2
    | 1 => decide (parseFieldDescriptor (C.2.1 k).2.2.1 = some .boolean) && !(C.2.1 k).2.2.2
    | 2 => decide (parseFieldDescriptor (C.2.1 k).2.2.1 = some .long) && !(C.2.1 k).2.2.2
    | 3 => !(C.2.1 k).2.2.2 && (match parseFieldDescriptor (C.2.1 k).2.2.1 with | some (.object _) => true | some (.array _) => true | _ => false)
    | _ => true
set_option maxRecDepth 1000000 in
theorem sw_fit_ok : ∀ c, c < 12 → ∀ k, k < sw_nf c → sw_fit c k = true := by decide +kernel
end
section
/-! A small machine over a store of fixed cells: worlds, walks, one rule an instruction. -/
abbrev sw_St : Type := (Nat → Nat → Int32) × (Nat → Nat → Int64) × (Nat → Nat → Option Nat)
abbrev sw_L : Type := List (Nat × Value)
abbrev sw_I : Type := Instr × Nat × Int32 × Int64
/-- how many cells; a cell is an object of a class or an array (type, length) -/
abbrev sw_G : Type := Nat × List (Nat ⊕ (Nat × Nat))
abbrev sw_E : Type := Launch × va_G × (Nat → Nat) × (Nat → ClassId)
/-- a method: its name, bytes, locals, return type, number of its class -/
abbrev sw_M : Type := MethodName × ByteArray × Nat × Option FieldType × Nat
def sw_uI (σ : sw_St) (o k : Nat) (v : Int32) : sw_St := (fun o' => if o' = o then upd (σ.1 o) k v else σ.1 o', σ.2)
def sw_uL (σ : sw_St) (o k : Nat) (v : Int64) : sw_St := (σ.1, fun o' => if o' = o then vp_updL (σ.2.1 o) k v else σ.2.1 o', σ.2.2)
def sw_uR (σ : sw_St) (o k : Nat) (v : Option Nat) : sw_St := (σ.1, σ.2.1, fun o' => if o' = o then vf_upd (σ.2.2 o) k v else σ.2.2 o')
def sw_gX : sw_G := (227, sw_shX)
def sw_gM : sw_G := (75, sw_shM)
def sw_sh (G : sw_G) (o : Nat) : Nat ⊕ (Nat × Nat) := G.2.getD o (.inr (9, 0))
def sw_isO (G : sw_G) (o c : Nat) : Bool := decide (o < G.1) && (match sw_sh G o with | .inl c' => c' == c | .inr _ => false)
def sw_isA (G : sw_G) (o t : Nat) : Bool := decide (o < G.1) && (match sw_sh G o with | .inl _ => false | .inr q => q.1 == t)
def sw_ln (G : sw_G) (o : Nat) : Nat := match sw_sh G o with | .inl _ => 0 | .inr q => q.2
/-- a cell's number stands for its address -/
def sw_cv (a : Nat → Nat) : Value → Value
  | .ref o => .ref (a o)
  | v => v
def sw_fv (σ : sw_St) (c o k : Nat) : Value := match sw_kd c k with
  | 0 => .int (σ.1 o k)
  | 1 => .int (σ.1 o k)
  | 2 => .long (σ.2.1 o k)
  | 3 => va_rf (σ.2.2 o k)
  | n + 4 => .ref (if n < 996 then o + n else n - 996)
def sw_cell (E : sw_E) (G : sw_G) (σ : sw_St) (o : Nat) : va_E := match sw_sh G o with
  | .inl c => .inr (c, (List.range (sw_nf c)).map fun k => sw_cv E.2.2.1 (sw_fv σ c o k))
  | .inr q => .inl (E.2.2.2 q.1, q.2, if q.1 = 3 then .inr (.inl (σ.2.1 o)) else if q.1 = 4 then .inr (.inr (.inr (.inr fun k => (σ.2.2 o k).map E.2.2.1))) else .inl (σ.1 o))
def sw_w (E : sw_E) (G : sw_G) (σ : sw_St) : va_W := (List.range G.1).map fun o => (E.2.2.1 o, sw_cell E G σ o)
theorem sw_w_at {E : sw_E} {G : sw_G} {σ : sw_St} {o : Nat} (h : o < G.1) : (sw_w E G σ)[o]? = some (E.2.2.1 o, sw_cell E G σ o) := by
  simp [sw_w, h]
theorem sw_w_set {E : sw_E} {G : sw_G} {σ σ' : sw_St} {o : Nat} (h : ∀ i, i ≠ o → sw_cell E G σ' i = sw_cell E G σ i) : (sw_w E G σ).set o (E.2.2.1 o, sw_cell E G σ' o) = sw_w E G σ' := by
  apply List.ext_getElem?
  intro i
  by_cases hi : i = o
  · subst hi
    by_cases hl : i < G.1
    · rw [List.getElem?_set_self (by simp [sw_w, hl]), sw_w_at hl]
    · have h1 : (sw_w E G σ').length ≤ i := by simp [sw_w]; omega
      have h2 : ((sw_w E G σ).set i (E.2.2.1 i, sw_cell E G σ' i)).length ≤ i := by simp [sw_w]; omega
      rw [List.getElem?_eq_none h1, List.getElem?_eq_none h2]
  · rw [List.getElem?_set_ne (Ne.symm hi)]
    simp only [sw_w, List.getElem?_map]
    by_cases hl : i < G.1
    · simp [hl, h i hi]
    · have : (List.range G.1)[i]? = none := List.getElem?_eq_none (by simp; omega)
      rw [this]; rfl
def sw_tys (E : sw_E) : List (ClassId × FieldType) := [(E.2.2.2 0, .int), (E.2.2.2 1, .byte), (E.2.2.2 2, .char), (E.2.2.2 3, .long), (E.2.2.2 4, .object RX8)]
/-- a method's words -/
def sw_ws (M : sw_M) : List Cond := .code M.1 M.2.1 M.2.2.1 M.2.2.2.1 :: sw_T
def sw_rm (d : Nat) : Room := { frames := d, cells := 0, slots := 0, locals := 70 * d }
/-- the machine at a method of the system -/
def sw_C (E : sw_E) (M : sw_M) (p : Program) (s : State) (m : MethodId) (args : Array Value) (meth : Method) (c : Code) : Prop :=
  p.tables.exec = Jvm.exec ∧ c.code = M.2.1 ∧ c.maxLocals = M.2.2.1 ∧ meth.sig.returnType = M.2.2.2.1 ∧ s.vm.findClass (sw_nm M.2.2.2.2) = some m.cls ∧ (∀ w ∈ sw_T, w.before args s = true) ∧ meth.locks = false ∧ va_K E.2.1 vwCl (sw_tys E) s
/-- how a method ends: an answer and a store that are as asked, the world as the store says -/
def sw_Q (E : sw_E) (G : sw_G) (A : Nat → Prop) (Q : Option Value → sw_St → Prop) : Array Value → State → Outcome → State → Prop := fun _ st oc t =>
  (∃ (r : Option Value) (σ : sw_St), oc = .returned (r.map (sw_cv E.2.2.1)) ∧ Q r σ ∧ va_P E.2.1 vwCl (sw_w E G σ) t.heap ∧ va_K E.2.1 vwCl (sw_tys E) t ∧ va_D A (sw_w E G σ)) ∧ va_F A st t
/-- from here on the method comes to its end, and Q holds there -/
def sw_W (E : sw_E) (G : sw_G) (M : sw_M) (d : Nat) (pc : Nat) (L : sw_L) (st : List Value) (σ : sw_St) (Q : Option Value → sw_St → Prop) : Prop :=
  ∀ (p : Program) (e : Env) (s : State) (m : MethodId) (args : Array Value) (below : List Frame) (meth : Method) (c : Code), sw_C E M p s m args meth c →
    ∀ (A : Nat → Prop) (H : Heap) (locs : List Loc) (ls : Array Slot), (∀ q, s.heap.size ≤ q → A q) → va_P E.2.1 vwCl (sw_w E G σ) H → va_D A (sw_w E G σ) → va_S A s.heap H locs → lv_has ls M.2.2.1 (L.map fun q => (q.1, sw_cv E.2.2.1 q.2)) →
      W p E.1 e (sw_rm d) s m args below meth c H locs 0 0 (MQ below (sw_Q E G A Q) args s 0 0 A) (F0 m pc ls (st.map (sw_cv E.2.2.1)))
/-- a method's contract -/
def sw_K (E : sw_E) (G : sw_G) (M : sw_M) (d : Nat) (av : List Value) (σ : sw_St) (Q : Option Value → sw_St → Prop) : Prop :=
  ∀ sz : Nat, Met E.1 M.1 (sw_ws M) (sw_rm d) (va_Pc (av.map (sw_cv E.2.2.1)) (fun U => U.heap.size = sz ∧ va_P E.2.1 vwCl (sw_w E G σ) U.heap ∧ va_K E.2.1 vwCl (sw_tys E) U ∧ va_D (fun _ => True) (sw_w E G σ))) (sw_Q E G (va_A (sw_w E G σ) sz) Q) 0 0 (va_A (sw_w E G σ) sz)
def sw_lk (L : sw_L) (x : Nat) : Option Value := match L with
  | [] => none
  | q :: r => if q.1 = x then some q.2 else sw_lk r x
theorem sw_lk_in {L : sw_L} {x : Nat} {v : Value} (h : sw_lk L x = some v) : (x, v) ∈ L := by
  induction L with
  | nil => cases h
  | cons q r ih =>
    unfold sw_lk at h
    split at h
    · next e => cases h; subst e; exact List.mem_cons_self
    · exact List.mem_cons_of_mem _ (ih h)
theorem sw_lk_has {L : sw_L} {x n : Nat} {v : Value} {ls : Array Slot} {a : Nat → Nat} (h : sw_lk L x = some v) (hl : lv_has ls n (L.map fun q => (q.1, sw_cv a q.2))) : ls[x]? = some (.val (sw_cv a v)) :=
  hl.2.2 (x, sw_cv a v) (List.mem_map.mpr ⟨(x, v), sw_lk_in h, rfl⟩)
/-- locals behind a store of one slot, of two -/
def sw_s1 (L : sw_L) (x : Nat) (v : Value) : sw_L := (x, v) :: L.filter (fun q => !(q.1 == x) && !(q.1 + 1 == x && q.2.category == 2))
def sw_s2 (L : sw_L) (x : Nat) (v : Value) : sw_L := (x, v) :: L.filter (fun q => !(q.1 == x) && (!(q.1 == x + 1) && !(q.1 + 1 == x && q.2.category == 2)))
theorem sw_cv_cat (a : Nat → Nat) (v : Value) : (sw_cv a v).category = v.category := by cases v <;> rfl
theorem sw_s1_map (a : Nat → Nat) (L : sw_L) (x : Nat) (v : Value) : (x, sw_cv a v) :: (L.map fun q => (q.1, sw_cv a q.2)).filter (fun q => !(q.1 == x) && !(q.1 + 1 == x && q.2.category == 2)) = (sw_s1 L x v).map fun q => (q.1, sw_cv a q.2) := by
  simp only [sw_s1, List.map_cons, List.filter_map, Function.comp_def, sw_cv_cat]
theorem sw_s2_map (a : Nat → Nat) (L : sw_L) (x : Nat) (v : Value) : (x, sw_cv a v) :: (L.map fun q => (q.1, sw_cv a q.2)).filter (fun q => !(q.1 == x) && (!(q.1 == x + 1) && !(q.1 + 1 == x && q.2.category == 2))) = (sw_s2 L x v).map fun q => (q.1, sw_cv a q.2) := by
  simp only [sw_s2, List.map_cons, List.filter_map, Function.comp_def, sw_cv_cat]
end
section
/-! One rule an instruction. -/
section sw_rules
variable {E : sw_E} {G : sw_G} {M : sw_M} {d pc : Nat} {L : sw_L} {st : List Value} {σ : sw_St} {Q : Option Value → sw_St → Prop}
theorem so_iconst {n : Int} {v : Int32} (hd : decode M.2.1 pc = .ok (.iconst n, 1)) (hv : Int32.ofInt n = v) (k : sw_W E G M d (pc + 1) L (.int v :: st) σ Q) : sw_W E G M d pc L (st) σ Q :=
  fun p e s m args below meth c C A H locs ls hA hP hD hS hl => lv_iconst C.1 C.2.1 hd hv (k p e s m args below meth c C A H locs ls hA hP hD hS hl)
theorem so_bipush {n : Int} {v : Int32} (hd : decode M.2.1 pc = .ok (.bipush n, 2)) (hv : (Int8.ofInt n).toInt32 = v) (k : sw_W E G M d (pc + 2) L (.int v :: st) σ Q) : sw_W E G M d pc L (st) σ Q :=
  fun p e s m args below meth c C A H locs ls hA hP hD hS hl => lv_bipush C.1 C.2.1 hd hv (k p e s m args below meth c C A H locs ls hA hP hD hS hl)
theorem so_sipush {n : Int} {v : Int32} (hd : decode M.2.1 pc = .ok (.sipush n, 3)) (hv : (Int16.ofInt n).toInt32 = v) (k : sw_W E G M d (pc + 3) L (.int v :: st) σ Q) : sw_W E G M d pc L (st) σ Q :=
  fun p e s m args below meth c C A H locs ls hA hP hD hS hl => lv_sipush C.1 C.2.1 hd hv (k p e s m args below meth c C A H locs ls hA hP hD hS hl)
theorem so_lconst {n : Fin 2} {v : Int64} (hd : decode M.2.1 pc = .ok (.lconst n, 1)) (hv : Int64.ofNat (n : Nat) = v) (k : sw_W E G M d (pc + 1) L (.long v :: st) σ Q) : sw_W E G M d pc L (st) σ Q :=
  fun p e s m args below meth c C A H locs ls hA hP hD hS hl => lv_lconst C.1 C.2.1 hd hv (k p e s m args below meth c C A H locs ls hA hP hD hS hl)
theorem so_iadd {x y : Int32} (hd : decode M.2.1 pc = .ok (.iadd, 1)) (k : sw_W E G M d (pc + 1) L (.int (x + y) :: st) σ Q) : sw_W E G M d pc L (.int y :: .int x :: st) σ Q :=
  fun p e s m args below meth c C A H locs ls hA hP hD hS hl => lv_iadd C.1 C.2.1 hd (k p e s m args below meth c C A H locs ls hA hP hD hS hl)
theorem so_isub {x y : Int32} (hd : decode M.2.1 pc = .ok (.isub, 1)) (k : sw_W E G M d (pc + 1) L (.int (x - y) :: st) σ Q) : sw_W E G M d pc L (.int y :: .int x :: st) σ Q :=
  fun p e s m args below meth c C A H locs ls hA hP hD hS hl => lv_isub C.1 C.2.1 hd (k p e s m args below meth c C A H locs ls hA hP hD hS hl)
theorem so_imul {x y : Int32} (hd : decode M.2.1 pc = .ok (.imul, 1)) (k : sw_W E G M d (pc + 1) L (.int (x * y) :: st) σ Q) : sw_W E G M d pc L (.int y :: .int x :: st) σ Q :=
  fun p e s m args below meth c C A H locs ls hA hP hD hS hl => lv_imul C.1 C.2.1 hd (k p e s m args below meth c C A H locs ls hA hP hD hS hl)
theorem so_iand {x y : Int32} (hd : decode M.2.1 pc = .ok (.iand, 1)) (k : sw_W E G M d (pc + 1) L (.int (x &&& y) :: st) σ Q) : sw_W E G M d pc L (.int y :: .int x :: st) σ Q :=
  fun p e s m args below meth c C A H locs ls hA hP hD hS hl => lv_iand C.1 C.2.1 hd (k p e s m args below meth c C A H locs ls hA hP hD hS hl)
theorem so_ior {x y : Int32} (hd : decode M.2.1 pc = .ok (.ior, 1)) (k : sw_W E G M d (pc + 1) L (.int (x ||| y) :: st) σ Q) : sw_W E G M d pc L (.int y :: .int x :: st) σ Q :=
  fun p e s m args below meth c C A H locs ls hA hP hD hS hl => lv_ior C.1 C.2.1 hd (k p e s m args below meth c C A H locs ls hA hP hD hS hl)
theorem so_ixor {x y : Int32} (hd : decode M.2.1 pc = .ok (.ixor, 1)) (k : sw_W E G M d (pc + 1) L (.int (x ^^^ y) :: st) σ Q) : sw_W E G M d pc L (.int y :: .int x :: st) σ Q :=
  fun p e s m args below meth c C A H locs ls hA hP hD hS hl => lv_ixor C.1 C.2.1 hd (k p e s m args below meth c C A H locs ls hA hP hD hS hl)
theorem so_ishl {x y : Int32} (hd : decode M.2.1 pc = .ok (.ishl, 1)) (k : sw_W E G M d (pc + 1) L (.int (x <<< (y &&& 31)) :: st) σ Q) : sw_W E G M d pc L (.int y :: .int x :: st) σ Q :=
  fun p e s m args below meth c C A H locs ls hA hP hD hS hl => lv_ishl C.1 C.2.1 hd (k p e s m args below meth c C A H locs ls hA hP hD hS hl)
theorem so_ishr {x y : Int32} (hd : decode M.2.1 pc = .ok (.ishr, 1)) (k : sw_W E G M d (pc + 1) L (.int (x >>> (y &&& 31)) :: st) σ Q) : sw_W E G M d pc L (.int y :: .int x :: st) σ Q :=
  fun p e s m args below meth c C A H locs ls hA hP hD hS hl => lv_ishr C.1 C.2.1 hd (k p e s m args below meth c C A H locs ls hA hP hD hS hl)
theorem so_idiv {x y : Int32} (hd : decode M.2.1 pc = .ok (.idiv, 1)) (hne : ¬ y = 0) (k : sw_W E G M d (pc + 1) L (.int (x / y) :: st) σ Q) : sw_W E G M d pc L (.int y :: .int x :: st) σ Q :=
  fun p e s m args below meth c C A H locs ls hA hP hD hS hl => lv_idiv C.1 C.2.1 hd hne (k p e s m args below meth c C A H locs ls hA hP hD hS hl)
theorem so_irem {x y : Int32} (hd : decode M.2.1 pc = .ok (.irem, 1)) (hne : ¬ y = 0) (k : sw_W E G M d (pc + 1) L (.int (x - x / y * y) :: st) σ Q) : sw_W E G M d pc L (.int y :: .int x :: st) σ Q :=
  fun p e s m args below meth c C A H locs ls hA hP hD hS hl => lv_irem C.1 C.2.1 hd hne (k p e s m args below meth c C A H locs ls hA hP hD hS hl)
theorem so_iushr {x y v : Int32} (hd : decode M.2.1 pc = .ok (.iushr, 1)) (hv : (x.toUInt32 >>> (y.toUInt32 &&& Int32.toUInt32 31)).toInt32 = v) (k : sw_W E G M d (pc + 1) L (.int v :: st) σ Q) : sw_W E G M d pc L (.int y :: .int x :: st) σ Q :=
  fun p e s m args below meth c C A H locs ls hA hP hD hS hl => lv_iushr C.1 C.2.1 hd hv (k p e s m args below meth c C A H locs ls hA hP hD hS hl)
theorem so_ladd {x y : Int64} (hd : decode M.2.1 pc = .ok (.ladd, 1)) (k : sw_W E G M d (pc + 1) L (.long (x + y) :: st) σ Q) : sw_W E G M d pc L (.long y :: .long x :: st) σ Q :=
  fun p e s m args below meth c C A H locs ls hA hP hD hS hl => lv_ladd C.1 C.2.1 hd (k p e s m args below meth c C A H locs ls hA hP hD hS hl)
theorem so_lsub {x y : Int64} (hd : decode M.2.1 pc = .ok (.lsub, 1)) (k : sw_W E G M d (pc + 1) L (.long (x - y) :: st) σ Q) : sw_W E G M d pc L (.long y :: .long x :: st) σ Q :=
  fun p e s m args below meth c C A H locs ls hA hP hD hS hl => lv_lsub C.1 C.2.1 hd (k p e s m args below meth c C A H locs ls hA hP hD hS hl)
theorem so_lmul {x y : Int64} (hd : decode M.2.1 pc = .ok (.lmul, 1)) (k : sw_W E G M d (pc + 1) L (.long (x * y) :: st) σ Q) : sw_W E G M d pc L (.long y :: .long x :: st) σ Q :=
  fun p e s m args below meth c C A H locs ls hA hP hD hS hl => lv_lmul C.1 C.2.1 hd (k p e s m args below meth c C A H locs ls hA hP hD hS hl)
theorem so_land {x y : Int64} (hd : decode M.2.1 pc = .ok (.land, 1)) (k : sw_W E G M d (pc + 1) L (.long (x &&& y) :: st) σ Q) : sw_W E G M d pc L (.long y :: .long x :: st) σ Q :=
  fun p e s m args below meth c C A H locs ls hA hP hD hS hl => lv_land C.1 C.2.1 hd (k p e s m args below meth c C A H locs ls hA hP hD hS hl)
theorem so_ldiv {x y : Int64} (hd : decode M.2.1 pc = .ok (.ldiv, 1)) (hne : ¬ y = 0) (k : sw_W E G M d (pc + 1) L (.long (x / y) :: st) σ Q) : sw_W E G M d pc L (.long y :: .long x :: st) σ Q :=
  fun p e s m args below meth c C A H locs ls hA hP hD hS hl => lv_ldiv C.1 C.2.1 hd hne (k p e s m args below meth c C A H locs ls hA hP hD hS hl)
theorem so_lrem {x y : Int64} (hd : decode M.2.1 pc = .ok (.lrem, 1)) (hne : ¬ y = 0) (k : sw_W E G M d (pc + 1) L (.long (x - x / y * y) :: st) σ Q) : sw_W E G M d pc L (.long y :: .long x :: st) σ Q :=
  fun p e s m args below meth c C A H locs ls hA hP hD hS hl => lv_lrem C.1 C.2.1 hd hne (k p e s m args below meth c C A H locs ls hA hP hD hS hl)
theorem so_lcmp {x y : Int64} (hd : decode M.2.1 pc = .ok (.lcmp, 1)) (k : sw_W E G M d (pc + 1) L (.int (lg_cmp x y) :: st) σ Q) : sw_W E G M d pc L (.long y :: .long x :: st) σ Q :=
  fun p e s m args below meth c C A H locs ls hA hP hD hS hl => W.lcmp C.1 C.2.1 hd (k p e s m args below meth c C A H locs ls hA hP hD hS hl)
theorem so_i2l {x : Int32} {v : Int64} (hd : decode M.2.1 pc = .ok (.i2l, 1)) (hv : x.toInt64 = v) (k : sw_W E G M d (pc + 1) L (.long v :: st) σ Q) : sw_W E G M d pc L (.int x :: st) σ Q :=
  fun p e s m args below meth c C A H locs ls hA hP hD hS hl => lv_i2l C.1 C.2.1 hd hv (k p e s m args below meth c C A H locs ls hA hP hD hS hl)
theorem so_l2i {x : Int64} {v : Int32} (hd : decode M.2.1 pc = .ok (.l2i, 1)) (hv : x.toInt32 = v) (k : sw_W E G M d (pc + 1) L (.int v :: st) σ Q) : sw_W E G M d pc L (.long x :: st) σ Q :=
  fun p e s m args below meth c C A H locs ls hA hP hD hS hl => lv_l2i C.1 C.2.1 hd hv (k p e s m args below meth c C A H locs ls hA hP hD hS hl)
theorem so_i2b {x v : Int32} (hd : decode M.2.1 pc = .ok (.i2b, 1)) (hv : x.toInt8.toInt32 = v) (k : sw_W E G M d (pc + 1) L (.int v :: st) σ Q) : sw_W E G M d pc L (.int x :: st) σ Q :=
  fun p e s m args below meth c C A H locs ls hA hP hD hS hl => lv_i2b C.1 C.2.1 hd hv (k p e s m args below meth c C A H locs ls hA hP hD hS hl)
theorem so_i2c {x v : Int32} (hd : decode M.2.1 pc = .ok (.i2c, 1)) (hv : (x.toUInt32 % 65536).toInt32 = v) (k : sw_W E G M d (pc + 1) L (.int v :: st) σ Q) : sw_W E G M d pc L (.int x :: st) σ Q :=
  fun p e s m args below meth c C A H locs ls hA hP hD hS hl => lv_i2c C.1 C.2.1 hd hv (k p e s m args below meth c C A H locs ls hA hP hD hS hl)
theorem so_dup {v : Value} (hd : decode M.2.1 pc = .ok (.dup, 1)) (h1 : v.category = 1) (k : sw_W E G M d (pc + 1) L (v :: v :: st) σ Q) : sw_W E G M d pc L (v :: st) σ Q :=
  fun p e s m args below meth c C A H locs ls hA hP hD hS hl => lv_dup C.1 C.2.1 hd ((sw_cv_cat _ _).trans h1) (k p e s m args below meth c C A H locs ls hA hP hD hS hl)
theorem so_pop {v : Value} (hd : decode M.2.1 pc = .ok (.pop, 1)) (h1 : v.category = 1) (k : sw_W E G M d (pc + 1) L (st) σ Q) : sw_W E G M d pc L (v :: st) σ Q :=
  fun p e s m args below meth c C A H locs ls hA hP hD hS hl => lv_pop C.1 C.2.1 hd ((sw_cv_cat _ _).trans h1) (k p e s m args below meth c C A H locs ls hA hP hD hS hl)
theorem so_dup_x1 {v w : Value} (hd : decode M.2.1 pc = .ok (.dup_x1, 1)) (h1 : v.category = 1) (h2 : w.category = 1) (k : sw_W E G M d (pc + 1) L (v :: w :: v :: st) σ Q) : sw_W E G M d pc L (v :: w :: st) σ Q :=
  fun p e s m args below meth c C A H locs ls hA hP hD hS hl => lv_dup_x1 C.1 C.2.1 hd ((sw_cv_cat _ _).trans h1) ((sw_cv_cat _ _).trans h2) (k p e s m args below meth c C A H locs ls hA hP hD hS hl)
theorem so_dup2_11 {v w : Value} (hd : decode M.2.1 pc = .ok (.dup2, 1)) (h1 : v.category = 1) (h2 : w.category = 1) (k : sw_W E G M d (pc + 1) L (v :: w :: v :: w :: st) σ Q) : sw_W E G M d pc L (v :: w :: st) σ Q :=
  fun p e s m args below meth c C A H locs ls hA hP hD hS hl => lv_dup2_11 C.1 C.2.1 hd ((sw_cv_cat _ _).trans h1) ((sw_cv_cat _ _).trans h2) (k p e s m args below meth c C A H locs ls hA hP hD hS hl)
theorem so_dup2_2 {v : Value} (hd : decode M.2.1 pc = .ok (.dup2, 1)) (h1 : v.category = 2) (k : sw_W E G M d (pc + 1) L (v :: v :: st) σ Q) : sw_W E G M d pc L (v :: st) σ Q :=
  fun p e s m args below meth c C A H locs ls hA hP hD hS hl => lv_dup2_2 C.1 C.2.1 hd ((sw_cv_cat _ _).trans h1) (k p e s m args below meth c C A H locs ls hA hP hD hS hl)
theorem so_iload {x : Nat} {v : Int32} (hd : decode M.2.1 pc = .ok (.iload x, 2)) (hv : sw_lk L x = some (.int v)) (k : sw_W E G M d (pc + 2) L (.int v :: st) σ Q) : sw_W E G M d pc L st σ Q :=
  fun p e s m args below meth c C A H locs ls hA hP hD hS hl => lv_iload C.1 C.2.1 hd (sw_lk_has hv hl) (k p e s m args below meth c C A H locs ls hA hP hD hS hl)
theorem so_iload_n {n : Fin 4} {v : Int32} (hd : decode M.2.1 pc = .ok (.iload_n n, 1)) (hv : sw_lk L n = some (.int v)) (k : sw_W E G M d (pc + 1) L (.int v :: st) σ Q) : sw_W E G M d pc L st σ Q :=
  fun p e s m args below meth c C A H locs ls hA hP hD hS hl => lv_iload_n C.1 C.2.1 hd rfl (sw_lk_has hv hl) (k p e s m args below meth c C A H locs ls hA hP hD hS hl)
theorem so_lload {x : Nat} {v : Int64} (hd : decode M.2.1 pc = .ok (.lload x, 2)) (hv : sw_lk L x = some (.long v)) (k : sw_W E G M d (pc + 2) L (.long v :: st) σ Q) : sw_W E G M d pc L st σ Q :=
  fun p e s m args below meth c C A H locs ls hA hP hD hS hl => lv_lload C.1 C.2.1 hd (sw_lk_has hv hl) (k p e s m args below meth c C A H locs ls hA hP hD hS hl)
theorem so_lload_n {n : Fin 4} {v : Int64} (hd : decode M.2.1 pc = .ok (.lload_n n, 1)) (hv : sw_lk L n = some (.long v)) (k : sw_W E G M d (pc + 1) L (.long v :: st) σ Q) : sw_W E G M d pc L st σ Q :=
  fun p e s m args below meth c C A H locs ls hA hP hD hS hl => lv_lload_n C.1 C.2.1 hd rfl (sw_lk_has hv hl) (k p e s m args below meth c C A H locs ls hA hP hD hS hl)
theorem so_aload {x : Nat} {v : Nat} (hd : decode M.2.1 pc = .ok (.aload x, 2)) (hv : sw_lk L x = some (.ref v)) (k : sw_W E G M d (pc + 2) L (.ref v :: st) σ Q) : sw_W E G M d pc L st σ Q :=
  fun p e s m args below meth c C A H locs ls hA hP hD hS hl => lv_aload C.1 C.2.1 hd (sw_lk_has hv hl) (k p e s m args below meth c C A H locs ls hA hP hD hS hl)
theorem so_aload_n {n : Fin 4} {v : Nat} (hd : decode M.2.1 pc = .ok (.aload_n n, 1)) (hv : sw_lk L n = some (.ref v)) (k : sw_W E G M d (pc + 1) L (.ref v :: st) σ Q) : sw_W E G M d pc L st σ Q :=
  fun p e s m args below meth c C A H locs ls hA hP hD hS hl => lv_aload_n C.1 C.2.1 hd rfl (sw_lk_has hv hl) (k p e s m args below meth c C A H locs ls hA hP hD hS hl)
theorem so_istore {x : Nat} {v : Int32} (hd : decode M.2.1 pc = .ok (.istore x, 2)) (hn : x < M.2.2.1) (k : sw_W E G M d (pc + 2) (sw_s1 L x (.int v)) st σ Q) : sw_W E G M d pc L (.int v :: st) σ Q :=
  fun p e s m args below meth c C A H locs ls hA hP hD hS hl => lv_istore C.1 C.2.1 hd hl hn (sw_s1_map E.2.2.1 L x (.int v)) (fun ls hl => k p e s m args below meth c C A H locs ls hA hP hD hS hl)
theorem so_istore_n {n : Fin 4} {v : Int32} (hd : decode M.2.1 pc = .ok (.istore_n n, 1)) (hn : (n : Nat) < M.2.2.1) (k : sw_W E G M d (pc + 1) (sw_s1 L n (.int v)) st σ Q) : sw_W E G M d pc L (.int v :: st) σ Q :=
  fun p e s m args below meth c C A H locs ls hA hP hD hS hl => lv_istore_n C.1 C.2.1 hd rfl hl hn (sw_s1_map E.2.2.1 L n (.int v)) (fun ls hl => k p e s m args below meth c C A H locs ls hA hP hD hS hl)
theorem so_lstore {x : Nat} {v : Int64} (hd : decode M.2.1 pc = .ok (.lstore x, 2)) (hn : x + 1 < M.2.2.1) (k : sw_W E G M d (pc + 2) (sw_s2 L x (.long v)) st σ Q) : sw_W E G M d pc L (.long v :: st) σ Q :=
  fun p e s m args below meth c C A H locs ls hA hP hD hS hl => lv_lstore C.1 C.2.1 hd hl hn (sw_s2_map E.2.2.1 L x (.long v)) (fun ls hl => k p e s m args below meth c C A H locs ls hA hP hD hS hl)
theorem so_lstore_n {n : Fin 4} {v : Int64} (hd : decode M.2.1 pc = .ok (.lstore_n n, 1)) (hn : (n : Nat) + 1 < M.2.2.1) (k : sw_W E G M d (pc + 1) (sw_s2 L n (.long v)) st σ Q) : sw_W E G M d pc L (.long v :: st) σ Q :=
  fun p e s m args below meth c C A H locs ls hA hP hD hS hl => lv_lstore_n C.1 C.2.1 hd rfl hl hn (sw_s2_map E.2.2.1 L n (.long v)) (fun ls hl => k p e s m args below meth c C A H locs ls hA hP hD hS hl)
theorem so_astore {x : Nat} {v : Nat} (hd : decode M.2.1 pc = .ok (.astore x, 2)) (hn : x < M.2.2.1) (k : sw_W E G M d (pc + 2) (sw_s1 L x (.ref v)) st σ Q) : sw_W E G M d pc L (.ref v :: st) σ Q :=
  fun p e s m args below meth c C A H locs ls hA hP hD hS hl => lv_astore C.1 C.2.1 hd hl hn (sw_s1_map E.2.2.1 L x (.ref v)) (fun ls hl => k p e s m args below meth c C A H locs ls hA hP hD hS hl)
theorem so_astore_n {n : Fin 4} {v : Nat} (hd : decode M.2.1 pc = .ok (.astore_n n, 1)) (hn : (n : Nat) < M.2.2.1) (k : sw_W E G M d (pc + 1) (sw_s1 L n (.ref v)) st σ Q) : sw_W E G M d pc L (.ref v :: st) σ Q :=
  fun p e s m args below meth c C A H locs ls hA hP hD hS hl => lv_astore_n C.1 C.2.1 hd rfl hl hn (sw_s1_map E.2.2.1 L n (.ref v)) (fun ls hl => k p e s m args below meth c C A H locs ls hA hP hD hS hl)
theorem sw_has_add {L : sw_L} {x n : Nat} {v : Value} {ls : Array Slot} {a : Nat → Nat} (h : sw_lk L x = some v) (hl : lv_has ls n (L.map fun q => (q.1, sw_cv a q.2))) : ∃ j : Nat, (L.map fun q => (q.1, sw_cv a q.2))[j]? = some (x, sw_cv a v) :=
  List.getElem?_of_mem (List.mem_map.mpr ⟨(x, v), sw_lk_in h, rfl⟩)
theorem so_iinc {x : Nat} {n : Int} {v w : Int32} (hd : decode M.2.1 pc = .ok (.iinc x n, 3)) (hv : sw_lk L x = some (.int v)) (hw : v + Int32.ofInt n = w) (hn : x < M.2.2.1) (k : sw_W E G M d (pc + 3) (sw_s1 L x (.int w)) st σ Q) : sw_W E G M d pc L st σ Q := by
  intro p e s m args below meth c C A H locs ls hA hP hD hS hl
  obtain ⟨j, hj⟩ := sw_has_add hv hl
  exact lv_iinc C.1 C.2.1 hd hl hj hw hn (sw_s1_map E.2.2.1 L x (.int w)) (fun ls hl => k p e s m args below meth c C A H locs ls hA hP hD hS hl)
theorem so_goto {off : Int} {tgt : Nat} (hd : decode M.2.1 pc = .ok (.goto off, 3)) (ht : (pc : Int) + off = (tgt : Int)) (k : sw_W E G M d tgt L st σ Q) : sw_W E G M d pc L st σ Q :=
  fun p e s m args below meth c C A H locs ls hA hP hD hS hl => lv_goto C.1 C.2.1 hd ht (k p e s m args below meth c C A H locs ls hA hP hD hS hl)
theorem so_icmp_eq {x y : Int32} {off : Int} {tgt : Nat} (hd : decode M.2.1 pc = .ok (.if_icmp .eq off, 3)) (ht : (pc : Int) + off = (tgt : Int)) (kt : x = y → sw_W E G M d tgt L st σ Q) (kf : ¬ x = y → sw_W E G M d (pc + 3) L st σ Q) : sw_W E G M d pc L (.int y :: .int x :: st) σ Q :=
  fun p e s m args below meth c C A H locs ls hA hP hD hS hl => lv_icmp_eq C.1 C.2.1 hd ht (fun h => kt h p e s m args below meth c C A H locs ls hA hP hD hS hl) (fun h => kf h p e s m args below meth c C A H locs ls hA hP hD hS hl)
theorem so_if_eq {x : Int32} {off : Int} {tgt : Nat} (hd : decode M.2.1 pc = .ok (.ifCond .eq off, 3)) (ht : (pc : Int) + off = (tgt : Int)) (kt : x = 0 → sw_W E G M d tgt L st σ Q) (kf : ¬ x = 0 → sw_W E G M d (pc + 3) L st σ Q) : sw_W E G M d pc L (.int x :: st) σ Q :=
  fun p e s m args below meth c C A H locs ls hA hP hD hS hl => lv_if_eq C.1 C.2.1 hd ht (fun h => kt h p e s m args below meth c C A H locs ls hA hP hD hS hl) (fun h => kf h p e s m args below meth c C A H locs ls hA hP hD hS hl)
theorem so_icmp_ne {x y : Int32} {off : Int} {tgt : Nat} (hd : decode M.2.1 pc = .ok (.if_icmp .ne off, 3)) (ht : (pc : Int) + off = (tgt : Int)) (kt : ¬ x = y → sw_W E G M d tgt L st σ Q) (kf : x = y → sw_W E G M d (pc + 3) L st σ Q) : sw_W E G M d pc L (.int y :: .int x :: st) σ Q :=
  fun p e s m args below meth c C A H locs ls hA hP hD hS hl => lv_icmp_ne C.1 C.2.1 hd ht (fun h => kt h p e s m args below meth c C A H locs ls hA hP hD hS hl) (fun h => kf h p e s m args below meth c C A H locs ls hA hP hD hS hl)
theorem so_if_ne {x : Int32} {off : Int} {tgt : Nat} (hd : decode M.2.1 pc = .ok (.ifCond .ne off, 3)) (ht : (pc : Int) + off = (tgt : Int)) (kt : ¬ x = 0 → sw_W E G M d tgt L st σ Q) (kf : x = 0 → sw_W E G M d (pc + 3) L st σ Q) : sw_W E G M d pc L (.int x :: st) σ Q :=
  fun p e s m args below meth c C A H locs ls hA hP hD hS hl => lv_if_ne C.1 C.2.1 hd ht (fun h => kt h p e s m args below meth c C A H locs ls hA hP hD hS hl) (fun h => kf h p e s m args below meth c C A H locs ls hA hP hD hS hl)
theorem so_icmp_lt {x y : Int32} {off : Int} {tgt : Nat} (hd : decode M.2.1 pc = .ok (.if_icmp .lt off, 3)) (ht : (pc : Int) + off = (tgt : Int)) (kt : x < y → sw_W E G M d tgt L st σ Q) (kf : ¬ x < y → sw_W E G M d (pc + 3) L st σ Q) : sw_W E G M d pc L (.int y :: .int x :: st) σ Q :=
  fun p e s m args below meth c C A H locs ls hA hP hD hS hl => lv_icmp_lt C.1 C.2.1 hd ht (fun h => kt h p e s m args below meth c C A H locs ls hA hP hD hS hl) (fun h => kf h p e s m args below meth c C A H locs ls hA hP hD hS hl)
theorem so_if_lt {x : Int32} {off : Int} {tgt : Nat} (hd : decode M.2.1 pc = .ok (.ifCond .lt off, 3)) (ht : (pc : Int) + off = (tgt : Int)) (kt : x < 0 → sw_W E G M d tgt L st σ Q) (kf : ¬ x < 0 → sw_W E G M d (pc + 3) L st σ Q) : sw_W E G M d pc L (.int x :: st) σ Q :=
  fun p e s m args below meth c C A H locs ls hA hP hD hS hl => lv_if_lt C.1 C.2.1 hd ht (fun h => kt h p e s m args below meth c C A H locs ls hA hP hD hS hl) (fun h => kf h p e s m args below meth c C A H locs ls hA hP hD hS hl)
theorem so_icmp_ge {x y : Int32} {off : Int} {tgt : Nat} (hd : decode M.2.1 pc = .ok (.if_icmp .ge off, 3)) (ht : (pc : Int) + off = (tgt : Int)) (kt : y ≤ x → sw_W E G M d tgt L st σ Q) (kf : ¬ y ≤ x → sw_W E G M d (pc + 3) L st σ Q) : sw_W E G M d pc L (.int y :: .int x :: st) σ Q :=
  fun p e s m args below meth c C A H locs ls hA hP hD hS hl => lv_icmp_ge C.1 C.2.1 hd ht (fun h => kt h p e s m args below meth c C A H locs ls hA hP hD hS hl) (fun h => kf h p e s m args below meth c C A H locs ls hA hP hD hS hl)
theorem so_if_ge {x : Int32} {off : Int} {tgt : Nat} (hd : decode M.2.1 pc = .ok (.ifCond .ge off, 3)) (ht : (pc : Int) + off = (tgt : Int)) (kt : 0 ≤ x → sw_W E G M d tgt L st σ Q) (kf : ¬ 0 ≤ x → sw_W E G M d (pc + 3) L st σ Q) : sw_W E G M d pc L (.int x :: st) σ Q :=
  fun p e s m args below meth c C A H locs ls hA hP hD hS hl => lv_if_ge C.1 C.2.1 hd ht (fun h => kt h p e s m args below meth c C A H locs ls hA hP hD hS hl) (fun h => kf h p e s m args below meth c C A H locs ls hA hP hD hS hl)
theorem so_icmp_gt {x y : Int32} {off : Int} {tgt : Nat} (hd : decode M.2.1 pc = .ok (.if_icmp .gt off, 3)) (ht : (pc : Int) + off = (tgt : Int)) (kt : y < x → sw_W E G M d tgt L st σ Q) (kf : ¬ y < x → sw_W E G M d (pc + 3) L st σ Q) : sw_W E G M d pc L (.int y :: .int x :: st) σ Q :=
  fun p e s m args below meth c C A H locs ls hA hP hD hS hl => lv_icmp_gt C.1 C.2.1 hd ht (fun h => kt h p e s m args below meth c C A H locs ls hA hP hD hS hl) (fun h => kf h p e s m args below meth c C A H locs ls hA hP hD hS hl)
theorem so_if_gt {x : Int32} {off : Int} {tgt : Nat} (hd : decode M.2.1 pc = .ok (.ifCond .gt off, 3)) (ht : (pc : Int) + off = (tgt : Int)) (kt : 0 < x → sw_W E G M d tgt L st σ Q) (kf : ¬ 0 < x → sw_W E G M d (pc + 3) L st σ Q) : sw_W E G M d pc L (.int x :: st) σ Q :=
  fun p e s m args below meth c C A H locs ls hA hP hD hS hl => lv_if_gt C.1 C.2.1 hd ht (fun h => kt h p e s m args below meth c C A H locs ls hA hP hD hS hl) (fun h => kf h p e s m args below meth c C A H locs ls hA hP hD hS hl)
theorem so_icmp_le {x y : Int32} {off : Int} {tgt : Nat} (hd : decode M.2.1 pc = .ok (.if_icmp .le off, 3)) (ht : (pc : Int) + off = (tgt : Int)) (kt : x ≤ y → sw_W E G M d tgt L st σ Q) (kf : ¬ x ≤ y → sw_W E G M d (pc + 3) L st σ Q) : sw_W E G M d pc L (.int y :: .int x :: st) σ Q :=
  fun p e s m args below meth c C A H locs ls hA hP hD hS hl => lv_icmp_le C.1 C.2.1 hd ht (fun h => kt h p e s m args below meth c C A H locs ls hA hP hD hS hl) (fun h => kf h p e s m args below meth c C A H locs ls hA hP hD hS hl)
theorem so_if_le {x : Int32} {off : Int} {tgt : Nat} (hd : decode M.2.1 pc = .ok (.ifCond .le off, 3)) (ht : (pc : Int) + off = (tgt : Int)) (kt : x ≤ 0 → sw_W E G M d tgt L st σ Q) (kf : ¬ x ≤ 0 → sw_W E G M d (pc + 3) L st σ Q) : sw_W E G M d pc L (.int x :: st) σ Q :=
  fun p e s m args below meth c C A H locs ls hA hP hD hS hl => lv_if_le C.1 C.2.1 hd ht (fun h => kt h p e s m args below meth c C A H locs ls hA hP hD hS hl) (fun h => kf h p e s m args below meth c C A H locs ls hA hP hD hS hl)
theorem so_lookup {dflt : Int} {ps : Array (Int × Int)} {len : Nat} {x : Int32} {off : Int} {tgt : Nat} (hd : decode M.2.1 pc = .ok (.lookupswitch dflt ps, len)) (hp : (ps.toList.zip (ps.toList.drop 1)).all (fun (a, next) => a.1 < next.1) = true) (ho : Op.lookupswitch.offset ps.toList dflt x.toInt = off) (ht : (pc : Int) + off = (tgt : Int)) (k : sw_W E G M d tgt L st σ Q) : sw_W E G M d pc L (.int x :: st) σ Q :=
  fun p e s m args below meth c C A H locs ls hA hP hD hS hl => lv_lookup C.1 C.2.1 hd hp ho ht (k p e s m args below meth c C A H locs ls hA hP hD hS hl)
theorem so_tableOut {dflt lo hi : Int} {offs : Array Int} {len : Nat} {x : Int32} {tgt : Nat} (hd : decode M.2.1 pc = .ok (.tableswitch dflt lo hi offs, len)) (h : x.toInt < lo ∨ hi < x.toInt) (ht : (pc : Int) + dflt = (tgt : Int)) (k : sw_W E G M d tgt L st σ Q) : sw_W E G M d pc L (.int x :: st) σ Q :=
  fun p e s m args below meth c C A H locs ls hA hP hD hS hl => lv_tableOut C.1 C.2.1 hd h ht (k p e s m args below meth c C A H locs ls hA hP hD hS hl)
theorem so_tableIn {dflt lo hi : Int} {offs : Array Int} {len : Nat} {x : Int32} {off : Int} {tgt : Nat} (hd : decode M.2.1 pc = .ok (.tableswitch dflt lo hi offs, len)) (h1 : ¬ x.toInt < lo) (h2 : ¬ hi < x.toInt) (ho : offs[(x.toInt - lo).toNat]? = some off) (ht : (pc : Int) + off = (tgt : Int)) (k : sw_W E G M d tgt L st σ Q) : sw_W E G M d pc L (.int x :: st) σ Q :=
  fun p e s m args below meth c C A H locs ls hA hP hD hS hl => lv_tableIn C.1 C.2.1 hd h1 h2 ho ht (k p e s m args below meth c C A H locs ls hA hP hD hS hl)
/-- constants of the pool -/
def sw_ciL (own idx : Nat) : Option Int32 := (sw_ci.find? fun q => q.1 == own && q.2.1 == idx).map fun q => q.2.2.1
def sw_clL (own idx : Nat) : Option Int64 := (sw_cl.find? fun q => q.1 == own && q.2.1 == idx).map fun q => q.2.2.1
theorem sw_ci_in {own idx : Nat} {v : Int32} (h : sw_ciL own idx = some v) : Cond.constant (sw_nm own) idx v ∈ sw_T := by
  unfold sw_ciL at h
  obtain ⟨q, hq, rfl⟩ := Option.map_eq_some_iff.mp h
  have h1 := List.mem_of_find?_eq_some hq
  have h2 := List.find?_some hq
  have h3 := List.all_eq_true.mp sw_ci_ok q h1
  simp only [Bool.and_eq_true, decide_eq_true_eq, beq_iff_eq] at h2 h3
  rw [← h2.1, ← h2.2]
  exact sw_T_of (List.mem_of_getElem? h3.1) h3.2
theorem sw_cl_in {own idx : Nat} {v : Int64} (h : sw_clL own idx = some v) : Cond.constantLong (sw_nm own) idx v ∈ sw_T := by
  unfold sw_clL at h
  obtain ⟨q, hq, rfl⟩ := Option.map_eq_some_iff.mp h
  have h1 := List.mem_of_find?_eq_some hq
  have h2 := List.find?_some hq
  have h3 := List.all_eq_true.mp sw_cl_ok q h1
  simp only [Bool.and_eq_true, decide_eq_true_eq, beq_iff_eq] at h2 h3
  rw [← h2.1, ← h2.2]
  exact sw_T_of (List.mem_of_getElem? h3.1) h3.2
theorem so_ldc {idx : Nat} {v : Int32} (hd : decode M.2.1 pc = .ok (.ldc idx, 2)) (hv : sw_ciL M.2.2.2.2 idx = some v) (k : sw_W E G M d (pc + 2) L (.int v :: st) σ Q) : sw_W E G M d pc L st σ Q :=
  fun p e s m args below meth c C A H locs ls hA hP hD hS hl => lv_ldc C.1 C.2.1 C.2.2.2.2.1 (C.2.2.2.2.2.1 _ (sw_ci_in hv)) hd (k p e s m args below meth c C A H locs ls hA hP hD hS hl)
theorem so_ldcw {idx : Nat} {v : Int32} (hd : decode M.2.1 pc = .ok (.ldc_w idx, 3)) (hv : sw_ciL M.2.2.2.2 idx = some v) (k : sw_W E G M d (pc + 3) L (.int v :: st) σ Q) : sw_W E G M d pc L st σ Q :=
  fun p e s m args below meth c C A H locs ls hA hP hD hS hl => lv_ldcw C.1 C.2.1 C.2.2.2.2.1 (C.2.2.2.2.2.1 _ (sw_ci_in hv)) hd (k p e s m args below meth c C A H locs ls hA hP hD hS hl)
theorem so_ldc2 {idx : Nat} {v : Int64} (hd : decode M.2.1 pc = .ok (.ldc2_w idx, 3)) (hv : sw_clL M.2.2.2.2 idx = some v) (k : sw_W E G M d (pc + 3) L (.long v :: st) σ Q) : sw_W E G M d pc L st σ Q :=
  fun p e s m args below meth c C A H locs ls hA hP hD hS hl => lv_ldc2 C.1 C.2.1 C.2.2.2.2.1 (C.2.2.2.2.2.1 _ (sw_cl_in hv)) hd (k p e s m args below meth c C A H locs ls hA hP hD hS hl)
/-- fields -/
def sw_fl (own idx : Nat) : Option (Nat × Nat) := (sw_ff.find? fun q => q.1 == own && q.2.1 == idx).map fun q => (q.2.2.1, q.2.2.2.1)
theorem sw_vw {c : Nat} {C : vw_C} (h : vwCl[c]? = some C) : c < 12 ∧ C.2.2 = sw_nf c ∧ (∀ w ∈ u_ws C.1 C.2.1 C.2.2, w ∈ sw_T) ∧ (∃ ty0 : Nat → FieldType, ∀ k, k < C.2.2 → parseFieldDescriptor (C.2.1 k).2.2.1 = some (ty0 k)) ∧ (∀ a, a < C.2.2 → ∀ b, b < C.2.2 → a ≠ b → (C.2.1 a).2.1 ≠ (C.2.1 b).2.1) := by
  match c, h with
  | 0, h => cases h; exact ⟨by decide, by decide +kernel, sw_in0, ⟨tyX0, tyX0_ok⟩, nmX0⟩
  | 1, h => cases h; exact ⟨by decide, by decide +kernel, sw_in1, ⟨tyX1, tyX1_ok⟩, nmX1⟩
  | 2, h => cases h; exact ⟨by decide, by decide +kernel, sw_in2, ⟨tyX2, tyX2_ok⟩, nmX2⟩
  | 3, h => cases h; exact ⟨by decide, by decide +kernel, sw_in3, ⟨tyX3, tyX3_ok⟩, nmX3⟩
  | 4, h => cases h; exact ⟨by decide, by decide +kernel, sw_in4, ⟨tyX4, tyX4_ok⟩, nmX4⟩
  | 5, h => cases h; exact ⟨by decide, by decide +kernel, sw_in5, ⟨tyX5, tyX5_ok⟩, nmX5⟩
  | 6, h => cases h; exact ⟨by decide, by decide +kernel, sw_in6, ⟨tyX6, tyX6_ok⟩, nmX6⟩
  | 7, h => cases h; exact ⟨by decide, by decide +kernel, sw_in7, ⟨tyX7, tyX7_ok⟩, nmX7⟩
  | 8, h => cases h; exact ⟨by decide, by decide +kernel, sw_in8, ⟨tyX8, tyX8_ok⟩, nmX8⟩
  | 9, h => cases h; exact ⟨by decide, by decide +kernel, sw_in9, ⟨tyX9, tyX9_ok⟩, nmX9⟩
  | 10, h => cases h; exact ⟨by decide, by decide +kernel, sw_in10, ⟨tyX10, tyX10_ok⟩, nmX10⟩
  | 11, h => cases h; exact ⟨by decide, by decide +kernel, sw_in11, ⟨tyX11, tyX11_ok⟩, nmX11⟩
  | n + 12, h => simp [vwCl] at h
theorem sw_fl_in {own idx c k : Nat} (h : sw_fl own idx = some (c, k)) : ∃ C : vw_C, vwCl[c]? = some C ∧ k < C.2.2 ∧ Cond.fieldLink (sw_nm own) idx (C.2.1 k).1 (C.2.1 k).2.1 (C.2.1 k).2.2.1 ∈ sw_T := by
  unfold sw_fl at h
  obtain ⟨q, hq, he⟩ := Option.map_eq_some_iff.mp h
  obtain ⟨rfl, rfl⟩ := Prod.mk.inj he
  have h1 := List.mem_of_find?_eq_some hq
  have h2 := List.find?_some hq
  have h3 := List.all_eq_true.mp sw_ff_ok q h1
  simp only [Bool.and_eq_true, decide_eq_true_eq, beq_iff_eq] at h2 h3
  obtain ⟨⟨g1, g2⟩, g3⟩ := h3
  cases hC : vwCl[q.2.2.1]? with
  | none =>
    rw [List.getD_eq_getElem?_getD, hC] at g3
    exact absurd g3 (Nat.not_lt_zero _)
  | some C =>
    rw [List.getD_eq_getElem?_getD, hC] at g3
    refine ⟨C, rfl, g3, ?_⟩
    have e : sw_ffW q = Cond.fieldLink (sw_nm own) idx (C.2.1 q.2.2.2.1).1 (C.2.1 q.2.2.2.1).2.1 (C.2.1 q.2.2.2.1).2.2.1 := by
      unfold sw_ffW
      rw [hC, h2.1, h2.2]
    rw [← e]
    exact sw_T_of (List.mem_of_getElem? g1) g2
theorem sw_isO_sp {o c : Nat} (h : sw_isO G o c = true) : o < G.1 ∧ sw_sh G o = .inl c := by
  unfold sw_isO at h
  simp only [Bool.and_eq_true, decide_eq_true_eq] at h
  refine ⟨h.1, ?_⟩
  cases hs : sw_sh G o with
  | inl c' => rw [hs] at h; rw [eq_of_beq h.2]
  | inr q => rw [hs] at h; exact absurd h.2 (by simp)
theorem sw_isA_sp {o t : Nat} (h : sw_isA G o t = true) : o < G.1 ∧ sw_sh G o = .inr (t, sw_ln G o) := by
  unfold sw_isA at h
  simp only [Bool.and_eq_true, decide_eq_true_eq] at h
  refine ⟨h.1, ?_⟩
  cases hs : sw_sh G o with
  | inl c' => rw [hs] at h; exact absurd h.2 (by simp)
  | inr q => rw [hs] at h; unfold sw_ln; rw [hs]; exact congrArg Sum.inr (Prod.ext (eq_of_beq h.2) rfl)
theorem sw_cell_o {o c : Nat} (h : sw_sh G o = .inl c) : sw_cell E G σ o = .inr (c, (List.range (sw_nf c)).map fun k => sw_cv E.2.2.1 (sw_fv σ c o k)) := by
  unfold sw_cell; rw [h]
theorem so_get {idx c k o : Nat} (hd : decode M.2.1 pc = .ok (.getfield idx, 3)) (hf : sw_fl M.2.2.2.2 idx = some (c, k)) (ho : sw_isO G o c = true) (kk : sw_W E G M d (pc + 3) L (sw_fv σ c o k :: st) σ Q) : sw_W E G M d pc L (.ref o :: st) σ Q := by
  intro p e s m args below meth cd C A H locs ls hA hP hD hS hl
  obtain ⟨V, hV, hk, hw⟩ := sw_fl_in hf
  obtain ⟨h1, h2, h3, -, -⟩ := sw_vw hV
  obtain ⟨g1, g2⟩ := sw_isO_sp ho
  have hc := sw_cell_o (E := E) (σ := σ) g2
  have hat := sw_w_at (E := E) (σ := σ) g1
  rw [hc] at hat
  have hkn : k < sw_nf c := h2 ▸ hk
  exact va_get C.1 C.2.1 C.2.2.2.2.2.1 h3 C.2.2.2.2.1 C.2.2.2.2.2.2.2 hP o hat hV k hk (C.2.2.2.2.2.1 _ hw) (fun _ h => h) (v := sw_cv E.2.2.1 (sw_fv σ c o k)) (by simp [hkn]) hd (kk p e s m args below meth cd C A H locs ls hA hP hD hS hl)
theorem sw_w_put {o c k : Nat} {v : Value} {σ' : sw_St} (hs : sw_sh G o = .inl c) (h1 : ∀ i, i ≠ o → σ'.1 i = σ.1 i ∧ σ'.2.1 i = σ.2.1 i ∧ σ'.2.2 i = σ.2.2 i) (h2 : ∀ j, j ≠ k → sw_fv σ' c o j = sw_fv σ c o j) (h3 : sw_cv E.2.2.1 (sw_fv σ' c o k) = v) :
    (sw_w E G σ).set o (E.2.2.1 o, .inr (c, ((List.range (sw_nf c)).map fun k => sw_cv E.2.2.1 (sw_fv σ c o k)).set k v)) = sw_w E G σ' := by
  have hc : sw_cell E G σ' o = .inr (c, ((List.range (sw_nf c)).map fun k => sw_cv E.2.2.1 (sw_fv σ c o k)).set k v) := by
    rw [sw_cell_o hs]
    congr 2
    apply List.ext_getElem?
    intro j
    by_cases hj : j = k
    · subst hj
      by_cases hl : j < sw_nf c
      · rw [List.getElem?_set_self (by simp [hl])]
        simp [hl, h3]
      · rw [List.getElem?_eq_none (by simp; omega), List.getElem?_eq_none (by simp; omega)]
    · rw [List.getElem?_set_ne (Ne.symm hj)]
      by_cases hl : j < sw_nf c
      · simp [hl, h2 j hj]
      · rw [List.getElem?_eq_none (by simp; omega), List.getElem?_eq_none (by simp; omega)]
  rw [← hc]
  refine sw_w_set fun i hi => ?_
  obtain ⟨e1, e2, e3⟩ := h1 i hi
  unfold sw_cell
  cases sw_sh G i with
  | inl c' =>
    have : ∀ k, sw_fv σ' c' i k = sw_fv σ c' i k := fun k => by unfold sw_fv; rw [e1, e2, e3]
    simp only [this]
  | inr q => simp only [e1, e2, e3]
theorem so_putI {idx c k o : Nat} {v : Int32} (hd : decode M.2.1 pc = .ok (.putfield idx, 3)) (hf : sw_fl M.2.2.2.2 idx = some (c, k)) (ho : sw_isO G o c = true) (hk0 : sw_kd c k = 0 ∨ (sw_kd c k = 1 ∧ (v = 0 ∨ v = 1))) (kk : sw_W E G M d (pc + 3) L st (sw_uI σ o k v) Q) : sw_W E G M d pc L (.int v :: .ref o :: st) σ Q := by
  intro p e s m args below meth cd C A H locs ls hA hP hD hS hl
  obtain ⟨V, hV, hk, hw⟩ := sw_fl_in hf
  obtain ⟨h1, h2, h3, ⟨ty0, h4⟩, h5⟩ := sw_vw hV
  obtain ⟨g1, g2⟩ := sw_isO_sp ho
  have hc := sw_cell_o (E := E) (σ := σ) g2
  have hat := sw_w_at (E := E) (σ := σ) g1
  rw [hc] at hat
  have hkn : k < sw_nf c := h2 ▸ hk
  have hfit := sw_fit_ok c h1 k hkn
  have hww : (sw_w E G σ).set o (E.2.2.1 o, .inr (c, ((List.range (sw_nf c)).map fun k => sw_cv E.2.2.1 (sw_fv σ c o k)).set k (.int v))) = sw_w E G (sw_uI σ o k v) := by
    refine sw_w_put g2 (fun i hi => ?_) (fun j hj => ?_) ?_
    · simp [sw_uI, hi]
    · unfold sw_fv
      simp [sw_uI, upd, hj]
    · unfold sw_fv
      rcases hk0 with h | ⟨h, -⟩ <;> simp [h, sw_uI, upd, sw_cv]
  have hx : ∃ ty, parseFieldDescriptor (V.2.1 k).2.2.1 = some ty ∧ narrow ty (.int v) = .int v ∧ fits ty (.int v) = true ∧ (V.2.1 k).2.2.2 = false := by
    unfold sw_fit at hfit
    rw [hV] at hfit
    rcases hk0 with h | ⟨h, hv⟩
    · simp only [h, Bool.and_eq_true, decide_eq_true_eq, Bool.not_eq_true'] at hfit
      exact ⟨_, hfit.1, rfl, rfl, hfit.2⟩
    · simp only [h, Bool.and_eq_true, decide_eq_true_eq, Bool.not_eq_true'] at hfit
      rcases hv with rfl | rfl <;> exact ⟨_, hfit.1, rfl, rfl, hfit.2⟩
  obtain ⟨ty, x1, x2, x3, x4⟩ := hx
  refine va_put C.1 C.2.1 C.2.2.2.2.2.1 h3 ty0 h4 h5 C.2.2.2.2.1 C.2.2.2.2.2.2.2 hP hD hS o hat hV k hk (C.2.2.2.2.2.1 _ hw) (fun _ h => h) x4 x1 x2 x3 (by simp [hkn]) hd (fun H1 locs1 hP1 hD1 hS1 => ?_)
  exact kk p e s m args below meth cd C A H1 locs1 ls hA (by rw [← hww]; exact hP1) (by rw [← hww]; exact hD1) hS1 hl
theorem so_putL {idx c k o : Nat} {v : Int64} (hd : decode M.2.1 pc = .ok (.putfield idx, 3)) (hf : sw_fl M.2.2.2.2 idx = some (c, k)) (ho : sw_isO G o c = true) (hk0 : sw_kd c k = 2) (kk : sw_W E G M d (pc + 3) L st (sw_uL σ o k v) Q) : sw_W E G M d pc L (.long v :: .ref o :: st) σ Q := by
  intro p e s m args below meth cd C A H locs ls hA hP hD hS hl
  obtain ⟨V, hV, hk, hw⟩ := sw_fl_in hf
  obtain ⟨h1, h2, h3, ⟨ty0, h4⟩, h5⟩ := sw_vw hV
  obtain ⟨g1, g2⟩ := sw_isO_sp ho
  have hc := sw_cell_o (E := E) (σ := σ) g2
  have hat := sw_w_at (E := E) (σ := σ) g1
  rw [hc] at hat
  have hkn : k < sw_nf c := h2 ▸ hk
  have hfit := sw_fit_ok c h1 k hkn
  have hww : (sw_w E G σ).set o (E.2.2.1 o, .inr (c, ((List.range (sw_nf c)).map fun k => sw_cv E.2.2.1 (sw_fv σ c o k)).set k (.long v))) = sw_w E G (sw_uL σ o k v) := by
    refine sw_w_put g2 (fun i hi => ?_) (fun j hj => ?_) ?_
    · simp [sw_uL, hi]
    · unfold sw_fv
      simp [sw_uL, vp_updL, hj]
    · unfold sw_fv
      simp [hk0, sw_uL, vp_updL, sw_cv]
  have hx : parseFieldDescriptor (V.2.1 k).2.2.1 = some .long ∧ (V.2.1 k).2.2.2 = false := by
    unfold sw_fit at hfit
    rw [hV] at hfit
    simp only [hk0, Bool.and_eq_true, decide_eq_true_eq, Bool.not_eq_true'] at hfit
    exact hfit
  refine va_put C.1 C.2.1 C.2.2.2.2.2.1 h3 ty0 h4 h5 C.2.2.2.2.1 C.2.2.2.2.2.2.2 hP hD hS o hat hV k hk (C.2.2.2.2.2.1 _ hw) (fun _ h => h) hx.2 hx.1 rfl rfl (by simp [hkn]) hd (fun H1 locs1 hP1 hD1 hS1 => ?_)
  exact kk p e s m args below meth cd C A H1 locs1 ls hA (by rw [← hww]; exact hP1) (by rw [← hww]; exact hD1) hS1 hl
theorem so_putR {idx c k o v : Nat} (hd : decode M.2.1 pc = .ok (.putfield idx, 3)) (hf : sw_fl M.2.2.2.2 idx = some (c, k)) (ho : sw_isO G o c = true) (hk0 : sw_kd c k = 3) (kk : sw_W E G M d (pc + 3) L st (sw_uR σ o k (some v)) Q) : sw_W E G M d pc L (.ref v :: .ref o :: st) σ Q := by
  intro p e s m args below meth cd C A H locs ls hA hP hD hS hl
  obtain ⟨V, hV, hk, hw⟩ := sw_fl_in hf
  obtain ⟨h1, h2, h3, ⟨ty0, h4⟩, h5⟩ := sw_vw hV
  obtain ⟨g1, g2⟩ := sw_isO_sp ho
  have hc := sw_cell_o (E := E) (σ := σ) g2
  have hat := sw_w_at (E := E) (σ := σ) g1
  rw [hc] at hat
  have hkn : k < sw_nf c := h2 ▸ hk
  have hfit := sw_fit_ok c h1 k hkn
  have hww : (sw_w E G σ).set o (E.2.2.1 o, .inr (c, ((List.range (sw_nf c)).map fun k => sw_cv E.2.2.1 (sw_fv σ c o k)).set k (.ref (E.2.2.1 v)))) = sw_w E G (sw_uR σ o k (some v)) := by
    refine sw_w_put g2 (fun i hi => ?_) (fun j hj => ?_) ?_
    · simp [sw_uR, hi]
    · unfold sw_fv
      simp [sw_uR, vf_upd, hj]
    · unfold sw_fv
      simp [hk0, sw_uR, vf_upd, sw_cv, va_rf]
  have hx : ∃ ty, parseFieldDescriptor (V.2.1 k).2.2.1 = some ty ∧ narrow ty (.ref (E.2.2.1 v)) = .ref (E.2.2.1 v) ∧ fits ty (.ref (E.2.2.1 v)) = true ∧ (V.2.1 k).2.2.2 = false := by
    unfold sw_fit at hfit
    rw [hV] at hfit
    simp only [hk0, Bool.and_eq_true, Bool.not_eq_true'] at hfit
    obtain ⟨f1, f2⟩ := hfit
    split at f2
    · next C' h => exact ⟨_, h, rfl, rfl, f1⟩
    · next C' h => exact ⟨_, h, rfl, rfl, f1⟩
    · cases f2
  obtain ⟨ty, x1, x2, x3, x4⟩ := hx
  refine va_put C.1 C.2.1 C.2.2.2.2.2.1 h3 ty0 h4 h5 C.2.2.2.2.1 C.2.2.2.2.2.2.2 hP hD hS o hat hV k hk (C.2.2.2.2.2.1 _ hw) (fun _ h => h) x4 x1 x2 x3 (by simp [hkn]) hd (fun H1 locs1 hP1 hD1 hS1 => ?_)
  exact kk p e s m args below meth cd C A H1 locs1 ls hA (by rw [← hww]; exact hP1) (by rw [← hww]; exact hD1) hS1 hl
/-- arrays -/
theorem sw_cell_a {o t : Nat} (h : sw_sh G o = .inr (t, sw_ln G o)) : sw_cell E G σ o = .inl (E.2.2.2 t, sw_ln G o, if t = 3 then .inr (.inl (σ.2.1 o)) else if t = 4 then .inr (.inr (.inr (.inr fun k => (σ.2.2 o k).map E.2.2.1))) else .inl (σ.1 o)) := by
  unfold sw_cell
  rw [h]
theorem sw_at_a {o t : Nat} (h : sw_isA G o t = true) : (sw_w E G σ)[o]? = some (E.2.2.1 o, .inl (E.2.2.2 t, sw_ln G o, if t = 3 then .inr (.inl (σ.2.1 o)) else if t = 4 then .inr (.inr (.inr (.inr fun k => (σ.2.2 o k).map E.2.2.1))) else .inl (σ.1 o))) := by
  obtain ⟨g1, g2⟩ := sw_isA_sp h
  rw [sw_w_at g1, sw_cell_a g2]
theorem sw_w_ast {o t : Nat} {σ' : sw_St} (h : sw_isA G o t = true) (h1 : ∀ i, i ≠ o → σ'.1 i = σ.1 i ∧ σ'.2.1 i = σ.2.1 i ∧ σ'.2.2 i = σ.2.2 i) :
    (sw_w E G σ).set o (E.2.2.1 o, .inl (E.2.2.2 t, sw_ln G o, if t = 3 then .inr (.inl (σ'.2.1 o)) else if t = 4 then .inr (.inr (.inr (.inr fun k => (σ'.2.2 o k).map E.2.2.1))) else .inl (σ'.1 o))) = sw_w E G σ' := by
  obtain ⟨g1, g2⟩ := sw_isA_sp h
  rw [← sw_cell_a (E := E) (σ := σ') g2]
  refine sw_w_set fun i hi => ?_
  obtain ⟨e1, e2, e3⟩ := h1 i hi
  unfold sw_cell
  cases sw_sh G i with
  | inl c' =>
    have : ∀ k, sw_fv σ' c' i k = sw_fv σ c' i k := fun k => by unfold sw_fv; rw [e1, e2, e3]
    simp only [this]
  | inr q => simp only [e1, e2, e3]
theorem so_iaload {o : Nat} {i : Int32} (hd : decode M.2.1 pc = .ok (.iaload, 1)) (ho : sw_isA G o 0 = true) (hi : vp_in i (sw_ln G o)) (k : sw_W E G M d (pc + 1) L (.int (σ.1 o i.toNatClampNeg) :: st) σ Q) : sw_W E G M d pc L (.int i :: .ref o :: st) σ Q :=
  fun p e s m args below meth c C A H locs ls hA hP hD hS hl => va_iald C.1 C.2.1 C.2.2.2.2.2.2.2 hP o 0 (sw_at_a ho) rfl hi hd (k p e s m args below meth c C A H locs ls hA hP hD hS hl)
theorem so_baload {o : Nat} {i : Int32} (hd : decode M.2.1 pc = .ok (.baload, 1)) (ho : sw_isA G o 1 = true) (hi : vp_in i (sw_ln G o)) (k : sw_W E G M d (pc + 1) L (.int (σ.1 o i.toNatClampNeg) :: st) σ Q) : sw_W E G M d pc L (.int i :: .ref o :: st) σ Q :=
  fun p e s m args below meth c C A H locs ls hA hP hD hS hl => va_bald C.1 C.2.1 C.2.2.2.2.2.2.2 hP o 1 (sw_at_a ho) rfl hi hd (k p e s m args below meth c C A H locs ls hA hP hD hS hl)
theorem so_caload {o : Nat} {i : Int32} (hd : decode M.2.1 pc = .ok (.caload, 1)) (ho : sw_isA G o 2 = true) (hi : vp_in i (sw_ln G o)) (k : sw_W E G M d (pc + 1) L (.int (σ.1 o i.toNatClampNeg) :: st) σ Q) : sw_W E G M d pc L (.int i :: .ref o :: st) σ Q :=
  fun p e s m args below meth c C A H locs ls hA hP hD hS hl => va_cald C.1 C.2.1 C.2.2.2.2.2.2.2 hP o 2 (sw_at_a ho) rfl hi hd (k p e s m args below meth c C A H locs ls hA hP hD hS hl)
theorem so_laload {o : Nat} {i : Int32} (hd : decode M.2.1 pc = .ok (.laload, 1)) (ho : sw_isA G o 3 = true) (hi : vp_in i (sw_ln G o)) (k : sw_W E G M d (pc + 1) L (.long (σ.2.1 o i.toNatClampNeg) :: st) σ Q) : sw_W E G M d pc L (.int i :: .ref o :: st) σ Q :=
  fun p e s m args below meth c C A H locs ls hA hP hD hS hl => va_lald C.1 C.2.1 C.2.2.2.2.2.2.2 hP o 3 (sw_at_a ho) rfl hi hd (k p e s m args below meth c C A H locs ls hA hP hD hS hl)
theorem so_aaload {o v : Nat} {i : Int32} (hd : decode M.2.1 pc = .ok (.aaload, 1)) (ho : sw_isA G o 4 = true) (hi : vp_in i (sw_ln G o)) (hv : σ.2.2 o i.toNatClampNeg = some v) (k : sw_W E G M d (pc + 1) L (.ref v :: st) σ Q) : sw_W E G M d pc L (.int i :: .ref o :: st) σ Q :=
  fun p e s m args below meth c C A H locs ls hA hP hD hS hl => va_aldq C.1 C.2.1 C.2.2.2.2.2.2.2 hP o 4 (sw_at_a ho) rfl hi hd (by
    have h := k p e s m args below meth c C A H locs ls hA hP hD hS hl
    rw [hv]
    exact h)
theorem so_alen {o t : Nat} {v : Int32} (hd : decode M.2.1 pc = .ok (.arraylength, 1)) (ht : t < 4) (ho : sw_isA G o t = true) (hv : Int32.ofNat (sw_ln G o) = v) (k : sw_W E G M d (pc + 1) L (.int v :: st) σ Q) : sw_W E G M d pc L (.ref o :: st) σ Q :=
  fun p e s m args below meth c C A H locs ls hA hP hD hS hl => va_alen C.1 C.2.1 C.2.2.2.2.2.2.2 hP o t (sw_at_a ho) (ty := if t = 0 then .int else if t = 1 then .byte else if t = 2 then .char else .long) (by
    rcases (show t = 0 ∨ t = 1 ∨ t = 2 ∨ t = 3 by omega) with rfl | rfl | rfl | rfl <;> rfl) hv hd (k p e s m args below meth c C A H locs ls hA hP hD hS hl)
theorem so_iastore {o : Nat} {i x : Int32} (hd : decode M.2.1 pc = .ok (.iastore, 1)) (ho : sw_isA G o 0 = true) (hi : vp_in i (sw_ln G o)) (k : sw_W E G M d (pc + 1) L st (sw_uI σ o i.toNatClampNeg x) Q) : sw_W E G M d pc L (.int x :: .int i :: .ref o :: st) σ Q := by
  intro p e s m args below meth c C A H locs ls hA hP hD hS hl
  refine va_iast C.1 C.2.1 C.2.2.2.2.2.2.2 hP hD hS o 0 (sw_at_a ho) rfl hi hd (fun H1 locs1 hP1 hD1 hS1 => ?_)
  have hw := sw_w_ast (E := E) (σ := σ) (σ' := sw_uI σ o i.toNatClampNeg x) ho (fun j hj => by simp [sw_uI, hj])
  have e1 : (sw_uI σ o i.toNatClampNeg x).1 o = upd (σ.1 o) i.toNatClampNeg x := by simp [sw_uI]
  rw [e1] at hw
  refine k p e s m args below meth c C A H1 locs1 ls hA ?_ ?_ hS1 hl
  · rw [← hw]; exact hP1
  · rw [← hw]; exact hD1
theorem so_bastore {o : Nat} {i x : Int32} (hd : decode M.2.1 pc = .ok (.bastore, 1)) (ho : sw_isA G o 1 = true) (hi : vp_in i (sw_ln G o)) (k : sw_W E G M d (pc + 1) L st (sw_uI σ o i.toNatClampNeg x.toInt8.toInt32) Q) : sw_W E G M d pc L (.int x :: .int i :: .ref o :: st) σ Q := by
  intro p e s m args below meth c C A H locs ls hA hP hD hS hl
  refine va_bast C.1 C.2.1 C.2.2.2.2.2.2.2 hP hD hS o 1 (sw_at_a ho) rfl hi hd (fun H1 locs1 hP1 hD1 hS1 => ?_)
  have hw := sw_w_ast (E := E) (σ := σ) (σ' := sw_uI σ o i.toNatClampNeg x.toInt8.toInt32) ho (fun j hj => by simp [sw_uI, hj])
  have e1 : (sw_uI σ o i.toNatClampNeg x.toInt8.toInt32).1 o = upd (σ.1 o) i.toNatClampNeg (vp_nar .byte x) := by simp [sw_uI, vp_nar_byte]
  rw [e1] at hw
  refine k p e s m args below meth c C A H1 locs1 ls hA ?_ ?_ hS1 hl
  · rw [← hw]; exact hP1
  · rw [← hw]; exact hD1
theorem so_lastore {o : Nat} {i : Int32} {x : Int64} (hd : decode M.2.1 pc = .ok (.lastore, 1)) (ho : sw_isA G o 3 = true) (hi : vp_in i (sw_ln G o)) (k : sw_W E G M d (pc + 1) L st (sw_uL σ o i.toNatClampNeg x) Q) : sw_W E G M d pc L (.long x :: .int i :: .ref o :: st) σ Q := by
  intro p e s m args below meth c C A H locs ls hA hP hD hS hl
  refine va_last C.1 C.2.1 C.2.2.2.2.2.2.2 hP hD hS o 3 (sw_at_a ho) rfl hi hd (fun H1 locs1 hP1 hD1 hS1 => ?_)
  have hw := sw_w_ast (E := E) (σ := σ) (σ' := sw_uL σ o i.toNatClampNeg x) ho (fun j hj => by simp [sw_uL, hj])
  have e1 : (sw_uL σ o i.toNatClampNeg x).2.1 o = vp_updL (σ.2.1 o) i.toNatClampNeg x := by simp [sw_uL]
  rw [e1] at hw
  refine k p e s m args below meth c C A H1 locs1 ls hA ?_ ?_ hS1 hl
  · rw [← hw]; exact hP1
  · rw [← hw]; exact hD1
/-- returns -/
theorem so_ireturn {v : Int32} {ty : FieldType} (hd : decode M.2.1 pc = .ok (.ireturn, 1)) (hr : M.2.2.2.1 = some ty) (hn : narrow ty (.int v) = .int v) (hq : Q (some (.int v)) σ) : sw_W E G M d pc L [.int v] σ Q :=
  fun p e s m args below meth c C A H locs ls hA hP hD hS hl => W.zret C.1 C.2.1 (C.2.2.2.1.trans hr) hn (fun t ht hW => ⟨⟨some (.int v), σ, rfl, hq, by rw [ht]; exact hP, va_K.moved hW.alike C.2.2.2.2.2.2.2, hD⟩, hS.F ht⟩) hS.2.2 hd C.2.2.2.2.2.2.1
theorem so_lreturn {v : Int64} (hd : decode M.2.1 pc = .ok (.lreturn, 1)) (hr : M.2.2.2.1 = some .long) (hq : Q (some (.long v)) σ) : sw_W E G M d pc L [.long v] σ Q :=
  fun p e s m args below meth c C A H locs ls hA hP hD hS hl => W.lret C.1 C.2.1 (C.2.2.2.1.trans hr) (fun t ht hW => ⟨⟨some (.long v), σ, rfl, hq, by rw [ht]; exact hP, va_K.moved hW.alike C.2.2.2.2.2.2.2, hD⟩, hS.F ht⟩) hS.2.2 hd C.2.2.2.2.2.2.1
theorem so_return (hd : decode M.2.1 pc = .ok (.return_, 1)) (hr : M.2.2.2.1 = none) (hq : Q none σ) : sw_W E G M d pc L [] σ Q :=
  fun p e s m args below meth c C A H locs ls hA hP hD hS hl => W.vret C.1 C.2.1 (C.2.2.2.1.trans hr) (fun t ht hW => ⟨⟨none, σ, rfl, hq, by rw [ht]; exact hP, va_K.moved hW.alike C.2.2.2.2.2.2.2, hD⟩, hS.F ht⟩) hS.2.2 hd C.2.2.2.2.2.2.1
end sw_rules
end
section
/-! Contracts: a method's own out of its walk; a call by its contract. -/
section sw_calls
variable {E : sw_E} {G : sw_G} {M N : sw_M} {d d' pc : Nat} {L : sw_L} {st av : List Value} {σ : sw_St} {Q Q' : Option Value → sw_St → Prop}
theorem sw_sl_map (a : Nat → Nat) (av : List Value) : (lg_sl (av.map (sw_cv a))).length = (lg_sl av).length := by
  induction av with
  | nil => rfl
  | cons v r ih => simp only [lg_sl, List.map_cons, List.flatMap_cons, List.length_append, sw_cv_cat] at ih ⊢; rw [ih]; split <;> rfl
theorem sw_args_map (a : Nat → Nat) (av : List Value) : ∀ i, lv_args i (av.map (sw_cv a)) = (lv_args i av).map fun q => (q.1, sw_cv a q.2) := by
  induction av with
  | nil => intro i; rfl
  | cons v r ih => intro i; simp only [List.map_cons, lv_args, sw_cv_cat, ih]
theorem sw_K.of (hy : plainName M.1.cls = true) (hn : sw_nm M.2.2.2.2 = M.1.cls) (hl : (lg_sl av).length ≤ M.2.2.1) (h : sw_W E G M d 0 (lv_args 0 av) [] σ Q) : sw_K E G M d av σ Q := by
  intro sz
  refine Met.ofW (cc := M.2.1) (maxL := M.2.2.1) (ret := M.2.2.2.1) hy rfl ?_
  intro p e s m args below meth c s₁ B hml hv
  obtain ⟨rfl, hsz, hP, hK, hD0⟩ := hv
  have hts := atoms_spec (ws := sw_ws M) B.pre
  have hown : s.vm.findClass (sw_nm M.2.2.2.2) = some m.cls := by rw [hn]; exact findClass_of_methodNamed B.named
  subst hsz
  have hD := hD0.self (sz := s.heap.size)
  have hA : ∀ q : Nat, s.heap.size ≤ q → va_A (sw_w E G σ) s.heap.size q := fun q h => Or.inr h
  have hl' := lv_entry (av.map (sw_cv E.2.2.1)) (n := M.2.2.1) (by rw [sw_sl_map]; exact hl)
  rw [lg_entry_eq]
  rw [sw_args_map] at hl'
  exact h p e s m _ below meth c ⟨B.exec, B.bytes, hml, B.returns, hown, fun w hw => hts w (List.mem_cons_of_mem _ hw), B.notSynchronized, hK⟩ _ s.heap [] _ hA hP hD va_S.rf hl'
/-- behind a call, by what it answers -/
theorem sw_after {p : Program} {l : Launch} {e : Env} {R : Room} {s : State} {m : MethodId} {args : Array Value} {below : List Frame} {meth : Method} {c : Code} {H : Heap} {locs : List Loc} {Qz : State → Prop} {ls : Array Slot} {st0 rest : List Value} {a : Array Value} {A0 A1 : Nat → Prop} {H0 : Heap}
    (hr : va_Run p l e R s m args below meth c H locs 0 0 0 0 (F0 m pc ls st0) rest (sw_Q E G A1 Q' a) A1) (hS : va_S A0 H0 H locs) (hA : ∀ q, A1 q → A0 q)
    (kk : ∀ (r : Option Value) (σ' : sw_St) (H1 : Heap) (locs1 : List Loc), Q' r σ' → va_P E.2.1 vwCl (sw_w E G σ') H1 → va_D A0 (sw_w E G σ') → va_S A0 H0 H1 locs1 → W p l e R s m args below meth c H1 locs1 0 0 Qz (F0 m (pc + 3) ls ((r.map (sw_cv E.2.2.1)).toList ++ rest))) :
    W p l e R s m args below meth c H locs 0 0 Qz (F0 m pc ls st0) := by
  intro T hT X
  obtain ⟨v, st₀, t, T', Lc, h0, X', hL, e1, e2, ⟨⟨r, σ', hv, hq, hP, hK, hD⟩, hz, hk⟩, stp⟩ := hr T hT X
  cases hv
  rw [h0] at hz hk
  obtain ⟨t2, a1, b1⟩ := kk r σ' T'.heap (locs ++ Lc) hq (by rw [e1]; exact hP) (hD.weaken (fun _ q _ h => hA q.1 h))
    ⟨Nat.le_trans hS.1 (by rw [e1]; exact hz), fun q h1 h2 => by rw [e1, hk q (Nat.lt_of_lt_of_le h1 hS.1) (fun z => h2 (hA q z))]; exact hS.2.1 q h1 h2, fun q hq => by
      rcases List.mem_append.mp hq with h | h
      · exact hS.2.2 q h
      · exact hA _ (hL q h)⟩ T' rfl X'
  exact ⟨t2, stp t2 a1, b1⟩
theorem sw_goodT : ∀ w ∈ sw_T, w ∈ sw_T ∧ ((w.onTables && w.keeps) = true ∨ ∃ ty, w = .arrayClass ty) := fun w hw => ⟨hw, good_of_word (List.mem_filter.mp hw).2⟩
/-- what a method must have to be called: its words -/
def sw_ok (N : sw_M) : Prop := Cond.code N.1 N.2.1 N.2.2.1 N.2.2.2.1 ∈ sw_T ∧ Cond.initialized N.1.cls ∈ sw_T ∧ N.2.2.1 ≤ 40 ∧ (N.1.cls ≠ "java/lang/invoke/MethodHandle" ∧ N.1.cls ≠ "java/lang/invoke/VarHandle")
def sw_okV (N : sw_M) : Prop := sw_ok N ∧ Cond.instanceMethod N.1 ∈ sw_T ∧ Cond.selects N.1.cls N.1 N.1 ∈ sw_T
def sw_okS (N : sw_M) : Prop := sw_ok N ∧ Cond.static N.1 ∈ sw_T
theorem sw_wsT (h : sw_ok N) : GoodIn sw_T (sw_ws N) := by
  intro w hw
  rcases List.mem_cons.mp hw with rfl | hw
  · exact sw_goodT _ h.1
  · exact sw_goodT _ hw
theorem sw_pc {E : sw_E} {G : sw_G} {σ : sw_St} {sz : Nat} {av : List Value} : FrameBlind (va_Pc av (fun U => U.heap.size = sz ∧ va_P E.2.1 vwCl (sw_w E G σ) U.heap ∧ va_K E.2.1 vwCl (sw_tys E) U ∧ va_D (fun _ => True) (sw_w E G σ))) := by
  intro a U g mk q
  obtain ⟨q0, q1, qP, qK, qD⟩ := q
  exact ⟨q0, q1, qP, va_K.moved (u := U) (U := U.calling g mk a) (Vm.Alike.refl U.vm) qK, qD⟩
theorem sw_room (h : N.2.2.1 ≤ 40) (hd : d' < d) : (sw_rm d').frames + 1 ≤ (sw_rm d).frames ∧ 8 + (N.2.2.1 + 11) + (sw_rm d').locals ≤ (sw_rm d).locals := by
  refine ⟨?_, ?_⟩
  · show d' + 1 ≤ d
    omega
  · show 8 + (N.2.2.1 + 11) + 70 * d' ≤ 70 * d
    omega
theorem sw_inA {A : Nat → Prop} {H0 H : Heap} {locs : List Loc} (hD : va_D A (sw_w E G σ)) (hS : va_S A H0 H locs) (hA : ∀ q, H0.size ≤ q → A q) : ∀ q, va_A (sw_w E G σ) H.size q → A q := by
  intro q h
  rcases h with ⟨k, e, h⟩ | h
  · exact hD.2 k (q, e) h
  · exact hA q (Nat.le_trans hS.1 h)
theorem sw_cats (a : Nat → Nat) (st : List Value) : ((st.map (sw_cv a)).map fun v => v.category).sum = (st.map fun v => v.category).sum := by
  rw [List.map_map]
  congr 2
  funext v
  exact sw_cv_cat a v
theorem so_callV {idx o n : Nat} {As : List Value} (hd : decode M.2.1 pc = .ok (.invokevirtual idx, 3)) (hlk : Cond.methodLink (sw_nm M.2.2.2.2) idx N.1 ∈ sw_T) (hok : sw_okV N) (hcl : sw_nm N.2.2.2.2 = N.1.cls) (hnc : N.2.2.2.2 < 12) (hpd : (parseMethodDescriptor N.1.desc).map (fun d => d.parameters.length) = some n) (hn : As.length = n)
    (ho : sw_isO G o N.2.2.2.2 = true) (hst : (st.map fun v => v.category).sum ≤ 8) (hdd : d' < d) (hM : sw_K E G N d' (.ref o :: As) σ Q') (k : ∀ r σ', Q' r σ' → sw_W E G M d (pc + 3) L (r.toList ++ st) σ' Q) : sw_W E G M d pc L (As.reverse ++ .ref o :: st) σ Q := by
  intro p e s m args below meth c C A H locs ls hA hP hD hS hl
  obtain ⟨g1, g2⟩ := sw_isO_sp ho
  have hat := sw_w_at (E := E) (σ := σ) g1
  rw [sw_cell_o g2] at hat
  have hF := sw_inA hD hS hA
  obtain ⟨V, hV⟩ : ∃ V, vwCl[N.2.2.2.2]? = some V := by
    have : N.2.2.2.2 < vwCl.length := hnc
    exact ⟨_, List.getElem?_eq_getElem this⟩
  have hVn : V.1 = N.1.cls := by
    rw [← hcl]
    revert hV hnc
    generalize N.2.2.2.2 = i
    intro hnc hV
    match i, hV, hnc with
    | 0, hV, _ | 1, hV, _ | 2, hV, _ | 3, hV, _ | 4, hV, _ | 5, hV, _ | 6, hV, _ | 7, hV, _ | 8, hV, _ | 9, hV, _ | 10, hV, _ | 11, hV, _ => cases hV; rfl
    | i + 12, _, h => omega
  have hrc := va_recv C.2.2.2.2.2.2.2 hP (ci := N.2.2.2.2) (q0 := o) hV hat
  rw [hVn] at hrc
  have hG : GoodIn sw_T (wsV (sw_nm M.2.2.2.2) idx N.1.cls N.1 (sw_ws N)) := by
    intro w hw
    rcases List.mem_append.mp hw with h | h
    · simp only [List.mem_cons, List.not_mem_nil, or_false] at h
      rcases h with rfl | rfl | rfl | rfl
      · exact sw_goodT _ hlk
      · exact sw_goodT _ hok.2.1
      · exact sw_goodT _ hok.2.2
      · exact sw_goodT _ hok.1.2.1
    · exact sw_wsT hok.1 w h
  have hrun := va_runV (As := As.map (sw_cv E.2.2.1)) (rest := st.map (sw_cv E.2.2.1)) (g := F0 m pc ls ((As.reverse ++ .ref o :: st).map (sw_cv E.2.2.1))) (below := below) (locs := locs) (cells := 0) (slots := 0) (e := e) (meth := meth) (R := sw_rm d) ⟨C.1, C.2.1, C.2.2.1, C.2.2.2.2.1, C.2.2.2.2.2.1⟩ (hM H.size)
    (cwV n C.2.2.2.2.2.1 hG rfl rfl rfl ⟨rfl, hok.1.2.2.2.1, hok.1.2.2.2.2, hpd⟩ (sw_room hok.1.2.2.1 hdd))
    ⟨sw_pc, hrc, fun U hU hW => ⟨rfl, by rw [hU], by rw [hU]; exact hP, va_K.moved hW.alike C.2.2.2.2.2.2.2, hD.weaken (fun _ _ _ _ => trivial)⟩⟩ rfl (by rw [List.length_map]; exact hn) hl.1 (by simp [sw_cv]) (lv_room (by rw [sw_cats]; exact hst)) hd ⟨Nat.le_refl _, Nat.le_refl _⟩
  refine sw_after hrun hS hF (fun r σ' H1 locs1 hq hP1 hD1 hS1 => ?_)
  have h2 := k r σ' hq p e s m args below meth c C A H1 locs1 ls hA hP1 hD1 hS1 hl
  have e3 : (Option.map (sw_cv E.2.2.1) r).toList ++ st.map (sw_cv E.2.2.1) = (r.toList ++ st).map (sw_cv E.2.2.1) := by
    cases r <;> simp
  rw [e3]
  exact h2
theorem so_callS {idx n : Nat} {As : List Value} (hd : decode M.2.1 pc = .ok (.invokestatic idx, 3)) (hlk : Cond.methodLink (sw_nm M.2.2.2.2) idx N.1 ∈ sw_T) (hok : sw_okS N) (hpd : (parseMethodDescriptor N.1.desc).map (fun d => d.parameters.length) = some n) (hn : As.length = n)
    (hst : (st.map fun v => v.category).sum ≤ 8) (hdd : d' < d) (hM : sw_K E G N d' As σ Q') (k : ∀ r σ', Q' r σ' → sw_W E G M d (pc + 3) L (r.toList ++ st) σ' Q) : sw_W E G M d pc L (As.reverse ++ st) σ Q := by
  intro p e s m args below meth c C A H locs ls hA hP hD hS hl
  have hF := sw_inA hD hS hA
  have hG : GoodIn sw_T (va_wsS (sw_nm M.2.2.2.2) idx N.1 (sw_ws N)) := by
    intro w hw
    rcases List.mem_append.mp hw with h | h
    · simp only [List.mem_cons, List.not_mem_nil, or_false] at h
      rcases h with rfl | rfl | rfl
      · exact sw_goodT _ hlk
      · exact sw_goodT _ hok.2
      · exact sw_goodT _ hok.1.2.1
    · exact sw_wsT hok.1 w h
  have hrun := va_runS (As := As.map (sw_cv E.2.2.1)) (rest := st.map (sw_cv E.2.2.1)) (g := F0 m pc ls ((As.reverse ++ st).map (sw_cv E.2.2.1))) (below := below) (locs := locs) (cells := 0) (slots := 0) (e := e) (meth := meth) (R := sw_rm d) ⟨C.1, C.2.1, C.2.2.1, C.2.2.2.2.1, C.2.2.2.2.2.1⟩ (hM H.size)
    (va_cwS n C.2.2.2.2.2.1 hG rfl rfl rfl ⟨hok.1.2.2.2.1, hok.1.2.2.2.2, hpd⟩ (sw_room hok.1.2.2.1 hdd))
    ⟨sw_pc, fun U hU hW => ⟨rfl, by rw [hU], by rw [hU]; exact hP, va_K.moved hW.alike C.2.2.2.2.2.2.2, hD.weaken (fun _ _ _ _ => trivial)⟩⟩ rfl (by rw [List.length_map]; exact hn) hl.1 (by simp) (lv_room (by rw [sw_cats]; exact hst)) hd ⟨Nat.le_refl _, Nat.le_refl _⟩
  refine sw_after hrun hS hF (fun r σ' H1 locs1 hq hP1 hD1 hS1 => ?_)
  have h2 := k r σ' hq p e s m args below meth c C A H1 locs1 ls hA hP1 hD1 hS1 hl
  have e3 : (Option.map (sw_cv E.2.2.1) r).toList ++ st.map (sw_cv E.2.2.1) = (r.toList ++ st).map (sw_cv E.2.2.1) := by
    cases r <;> simp
  rw [e3]
  exact h2
end sw_calls
end
section
/-! Stretches of instructions as data: what they ask and where they lead is computed. -/
def sw_tg (pc : Nat) (off : Int) : Option Nat := if (pc : Int) + off = (((pc : Int) + off).toNat : Int) then some ((pc : Int) + off).toNat else none
def sw_cc : Jvm.ClassFile.Cond → Nat
  | .eq => 0 | .ne => 1 | .lt => 2 | .ge => 3 | .gt => 4 | .le => 5
/-- an instruction as a number and its numbers, and where the next one stands -/
def sw_tr (own nL pc : Nat) (i : Instr) (len : Nat) : Option (sw_I × Nat) := match i with
  | .iconst n => if len = 1 then some ((.iconst 0, 0, Int32.ofInt n, 0), pc + 1) else none
  | .bipush n => if len = 2 then some ((.iconst 0, 0, (Int8.ofInt n).toInt32, 0), pc + 2) else none
  | .sipush n => if len = 3 then some ((.iconst 0, 0, (Int16.ofInt n).toInt32, 0), pc + 3) else none
  | .ldc idx => if len = 2 then (sw_ciL own idx).map fun v => ((.iconst 0, 0, v, 0), pc + 2) else none
  | .ldc_w idx => if len = 3 then (sw_ciL own idx).map fun v => ((.iconst 0, 0, v, 0), pc + 3) else none
  | .ldc2_w idx => if len = 3 then (sw_clL own idx).map fun v => ((.lconst 0, 0, 0, v), pc + 3) else none
  | .lconst n => if len = 1 then some ((.lconst 0, 0, 0, Int64.ofNat (n : Nat)), pc + 1) else none
  | .iload x => if len = 2 then some ((.iload 0, x, 0, 0), pc + 2) else none
  | .iload_n x => if len = 1 then some ((.iload 0, (x : Nat), 0, 0), pc + 1) else none
  | .lload x => if len = 2 then some ((.lload 0, x, 0, 0), pc + 2) else none
  | .lload_n x => if len = 1 then some ((.lload 0, (x : Nat), 0, 0), pc + 1) else none
  | .aload x => if len = 2 then some ((.aload 0, x, 0, 0), pc + 2) else none
  | .aload_n x => if len = 1 then some ((.aload 0, (x : Nat), 0, 0), pc + 1) else none
  | .istore x => if len = 2 ∧ x < nL then some ((.istore 0, x, 0, 0), pc + 2) else none
  | .istore_n x => if len = 1 ∧ (x : Nat) < nL then some ((.istore 0, (x : Nat), 0, 0), pc + 1) else none
  | .lstore x => if len = 2 ∧ x + 1 < nL then some ((.lstore 0, x, 0, 0), pc + 2) else none
  | .lstore_n x => if len = 1 ∧ (x : Nat) + 1 < nL then some ((.lstore 0, (x : Nat), 0, 0), pc + 1) else none
  | .astore x => if len = 2 ∧ x < nL then some ((.astore 0, x, 0, 0), pc + 2) else none
  | .astore_n x => if len = 1 ∧ (x : Nat) < nL then some ((.astore 0, (x : Nat), 0, 0), pc + 1) else none
  | .iinc x n => if len = 3 ∧ x < nL then some ((.iinc 0 0, x, Int32.ofInt n, 0), pc + 3) else none
  | .getfield idx => if len = 3 then (sw_fl own idx).map fun q => ((.getfield 0, 1000 * q.1 + q.2, 0, 0), pc + 3) else none
  | .putfield idx => if len = 3 then (sw_fl own idx).map fun q => ((.putfield 0, 1000 * q.1 + q.2, 0, 0), pc + 3) else none
  | .iaload => if len = 1 then some ((.iaload, 0, 0, 0), pc + 1) else none
  | .baload => if len = 1 then some ((.baload, 0, 0, 0), pc + 1) else none
  | .caload => if len = 1 then some ((.caload, 0, 0, 0), pc + 1) else none
  | .laload => if len = 1 then some ((.laload, 0, 0, 0), pc + 1) else none
  | .aaload => if len = 1 then some ((.aaload, 0, 0, 0), pc + 1) else none
  | .iastore => if len = 1 then some ((.iastore, 0, 0, 0), pc + 1) else none
  | .bastore => if len = 1 then some ((.bastore, 0, 0, 0), pc + 1) else none
  | .lastore => if len = 1 then some ((.lastore, 0, 0, 0), pc + 1) else none
  | .arraylength => if len = 1 then some ((.arraylength, 0, 0, 0), pc + 1) else none
  | .iadd => if len = 1 then some ((.iadd, 0, 0, 0), pc + 1) else none
  | .isub => if len = 1 then some ((.isub, 0, 0, 0), pc + 1) else none
  | .imul => if len = 1 then some ((.imul, 0, 0, 0), pc + 1) else none
  | .iand => if len = 1 then some ((.iand, 0, 0, 0), pc + 1) else none
  | .ior => if len = 1 then some ((.ior, 0, 0, 0), pc + 1) else none
  | .ixor => if len = 1 then some ((.ixor, 0, 0, 0), pc + 1) else none
  | .ishl => if len = 1 then some ((.ishl, 0, 0, 0), pc + 1) else none
  | .ishr => if len = 1 then some ((.ishr, 0, 0, 0), pc + 1) else none
  | .idiv => if len = 1 then some ((.idiv, 0, 0, 0), pc + 1) else none
  | .irem => if len = 1 then some ((.irem, 0, 0, 0), pc + 1) else none
  | .iushr => if len = 1 then some ((.iushr, 0, 0, 0), pc + 1) else none
  | .ladd => if len = 1 then some ((.ladd, 0, 0, 0), pc + 1) else none
  | .lsub => if len = 1 then some ((.lsub, 0, 0, 0), pc + 1) else none
  | .lmul => if len = 1 then some ((.lmul, 0, 0, 0), pc + 1) else none
  | .land => if len = 1 then some ((.land, 0, 0, 0), pc + 1) else none
  | .ldiv => if len = 1 then some ((.ldiv, 0, 0, 0), pc + 1) else none
  | .lrem => if len = 1 then some ((.lrem, 0, 0, 0), pc + 1) else none
  | .lcmp => if len = 1 then some ((.lcmp, 0, 0, 0), pc + 1) else none
  | .i2l => if len = 1 then some ((.i2l, 0, 0, 0), pc + 1) else none
  | .l2i => if len = 1 then some ((.l2i, 0, 0, 0), pc + 1) else none
  | .i2b => if len = 1 then some ((.i2b, 0, 0, 0), pc + 1) else none
  | .i2c => if len = 1 then some ((.i2c, 0, 0, 0), pc + 1) else none
  | .dup => if len = 1 then some ((.dup, 0, 0, 0), pc + 1) else none
  | .pop => if len = 1 then some ((.pop, 0, 0, 0), pc + 1) else none
  | .dup_x1 => if len = 1 then some ((.dup_x1, 0, 0, 0), pc + 1) else none
  | .dup2 => if len = 1 then some ((.dup2, 0, 0, 0), pc + 1) else none
  | .goto off => if len = 3 then (sw_tg pc off).map fun t => ((.goto 0, t, 0, 0), t) else none
  | .if_icmp c off => if len = 3 then (sw_tg pc off).map fun t => ((.if_icmp c 0, t, 0, 0), pc + 3) else none
  | .ifCond c off => if len = 3 then (sw_tg pc off).map fun t => ((.ifCond c 0, t, 0, 0), pc + 3) else none
  | _ => none
/-- what an instruction asks: K where it leaves the stretch, N where it goes on -/
def sw_ex (G : sw_G) (i : sw_I) (L : sw_L) (st : List Value) (σ : sw_St) (K : Nat → sw_L → List Value → sw_St → Prop) (N : sw_L → List Value → sw_St → Prop) : Prop := match i.1 with
  | .iconst _ => N L (.int i.2.2.1 :: st) σ
  | .lconst _ => N L (.long i.2.2.2 :: st) σ
  | .iload _ => match sw_lk L i.2.1 with
    | some (.int v) => N L (.int v :: st) σ
    | _ => False
  | .lload _ => match sw_lk L i.2.1 with
    | some (.long v) => N L (.long v :: st) σ
    | _ => False
  | .aload _ => match sw_lk L i.2.1 with
    | some (.ref v) => N L (.ref v :: st) σ
    | _ => False
  | .istore _ => match st with
    | .int v :: r => N (sw_s1 L i.2.1 (.int v)) r σ
    | _ => False
  | .lstore _ => match st with
    | .long v :: r => N (sw_s2 L i.2.1 (.long v)) r σ
    | _ => False
  | .astore _ => match st with
    | .ref v :: r => N (sw_s1 L i.2.1 (.ref v)) r σ
    | _ => False
  | .iinc _ _ => match sw_lk L i.2.1 with
    | some (.int v) => N (sw_s1 L i.2.1 (.int (v + i.2.2.1))) st σ
    | _ => False
  | .getfield _ => match st with
    | .ref o :: r => sw_isO G o (i.2.1 / 1000) = true ∧ (match sw_kd (i.2.1 / 1000) (i.2.1 % 1000) with
      | 3 => ∃ v, σ.2.2 o (i.2.1 % 1000) = some v ∧ N L (.ref v :: r) σ
      | _ => N L (sw_fv σ (i.2.1 / 1000) o (i.2.1 % 1000) :: r) σ)
    | _ => False
  | .putfield _ => match st with
    | .int v :: .ref o :: r => sw_isO G o (i.2.1 / 1000) = true ∧ (match sw_kd (i.2.1 / 1000) (i.2.1 % 1000) with | 0 => True | 1 => (v = 0 ∨ v = 1) | _ => False) ∧ N L r (sw_uI σ o (i.2.1 % 1000) v)
    | .long v :: .ref o :: r => sw_isO G o (i.2.1 / 1000) = true ∧ sw_kd (i.2.1 / 1000) (i.2.1 % 1000) = 2 ∧ N L r (sw_uL σ o (i.2.1 % 1000) v)
    | .ref v :: .ref o :: r => sw_isO G o (i.2.1 / 1000) = true ∧ sw_kd (i.2.1 / 1000) (i.2.1 % 1000) = 3 ∧ N L r (sw_uR σ o (i.2.1 % 1000) (some v))
    | _ => False
  | .iaload => match st with
    | .int i :: .ref o :: r => sw_isA G o 0 = true ∧ vp_in i (sw_ln G o) ∧ N L (.int (σ.1 o i.toNatClampNeg) :: r) σ
    | _ => False
  | .baload => match st with
    | .int i :: .ref o :: r => sw_isA G o 1 = true ∧ vp_in i (sw_ln G o) ∧ N L (.int (σ.1 o i.toNatClampNeg) :: r) σ
    | _ => False
  | .caload => match st with
    | .int i :: .ref o :: r => sw_isA G o 2 = true ∧ vp_in i (sw_ln G o) ∧ N L (.int (σ.1 o i.toNatClampNeg) :: r) σ
    | _ => False
  | .laload => match st with
    | .int i :: .ref o :: r => sw_isA G o 3 = true ∧ vp_in i (sw_ln G o) ∧ N L (.long (σ.2.1 o i.toNatClampNeg) :: r) σ
    | _ => False
  | .aaload => match st with
    | .int i :: .ref o :: r => sw_isA G o 4 = true ∧ vp_in i (sw_ln G o) ∧ ∃ v, σ.2.2 o i.toNatClampNeg = some v ∧ N L (.ref v :: r) σ
    | _ => False
  | .iastore => match st with
    | .int x :: .int i :: .ref o :: r => sw_isA G o 0 = true ∧ vp_in i (sw_ln G o) ∧ N L r (sw_uI σ o i.toNatClampNeg x)
    | _ => False
  | .bastore => match st with
    | .int x :: .int i :: .ref o :: r => sw_isA G o 1 = true ∧ vp_in i (sw_ln G o) ∧ N L r (sw_uI σ o i.toNatClampNeg x.toInt8.toInt32)
    | _ => False
  | .lastore => match st with
    | .long x :: .int i :: .ref o :: r => sw_isA G o 3 = true ∧ vp_in i (sw_ln G o) ∧ N L r (sw_uL σ o i.toNatClampNeg x)
    | _ => False
  | .arraylength => match st with
    | .ref o :: r => (sw_isA G o 0 || sw_isA G o 1 || sw_isA G o 2 || sw_isA G o 3) = true ∧ N L (.int (nI (sw_ln G o)) :: r) σ
    | _ => False
  | .iadd => match st with
    | .int y :: .int x :: r => N L (.int (x + y) :: r) σ
    | _ => False
  | .isub => match st with
    | .int y :: .int x :: r => N L (.int (x - y) :: r) σ
    | _ => False
  | .imul => match st with
    | .int y :: .int x :: r => N L (.int (x * y) :: r) σ
    | _ => False
  | .iand => match st with
    | .int y :: .int x :: r => N L (.int (x &&& y) :: r) σ
    | _ => False
  | .ior => match st with
    | .int y :: .int x :: r => N L (.int (x ||| y) :: r) σ
    | _ => False
  | .ixor => match st with
    | .int y :: .int x :: r => N L (.int (x ^^^ y) :: r) σ
    | _ => False
  | .ishl => match st with
    | .int y :: .int x :: r => N L (.int (x <<< (y &&& 31)) :: r) σ
    | _ => False
  | .ishr => match st with
    | .int y :: .int x :: r => N L (.int (x >>> (y &&& 31)) :: r) σ
    | _ => False
  | .idiv => match st with
    | .int y :: .int x :: r => ¬ y = 0 ∧ N L (.int (x / y) :: r) σ
    | _ => False
  | .irem => match st with
    | .int y :: .int x :: r => ¬ y = 0 ∧ N L (.int (x - x / y * y) :: r) σ
    | _ => False
  | .iushr => match st with
    | .int y :: .int x :: r => N L (.int (x.toUInt32 >>> (y.toUInt32 &&& Int32.toUInt32 31)).toInt32 :: r) σ
    | _ => False
  | .ladd => match st with
    | .long y :: .long x :: r => N L (.long (x + y) :: r) σ
    | _ => False
  | .lsub => match st with
    | .long y :: .long x :: r => N L (.long (x - y) :: r) σ
    | _ => False
  | .lmul => match st with
    | .long y :: .long x :: r => N L (.long (x * y) :: r) σ
    | _ => False
  | .land => match st with
    | .long y :: .long x :: r => N L (.long (x &&& y) :: r) σ
    | _ => False
  | .ldiv => match st with
    | .long y :: .long x :: r => ¬ y = 0 ∧ N L (.long (x / y) :: r) σ
    | _ => False
  | .lrem => match st with
    | .long y :: .long x :: r => ¬ y = 0 ∧ N L (.long (x - x / y * y) :: r) σ
    | _ => False
  | .lcmp => match st with
    | .long y :: .long x :: r => N L (.int (lg_cmp x y) :: r) σ
    | _ => False
  | .i2l => match st with
    | .int x :: r => N L (.long x.toInt64 :: r) σ
    | _ => False
  | .l2i => match st with
    | .long x :: r => N L (.int x.toInt32 :: r) σ
    | _ => False
  | .i2b => match st with
    | .int x :: r => N L (.int x.toInt8.toInt32 :: r) σ
    | _ => False
  | .i2c => match st with
    | .int x :: r => N L (.int (x.toUInt32 % 65536).toInt32 :: r) σ
    | _ => False
  | .dup => match st with
    | v :: r => v.category = 1 ∧ N L (v :: v :: r) σ
    | _ => False
  | .pop => match st with
    | v :: r => v.category = 1 ∧ N L r σ
    | _ => False
  | .dup_x1 => match st with
    | v :: w :: r => v.category = 1 ∧ w.category = 1 ∧ N L (v :: w :: v :: r) σ
    | _ => False
  | .dup2 => match st with
    | v :: w :: r => v.category = 1 ∧ w.category = 1 ∧ N L (v :: w :: v :: w :: r) σ
    | _ => False
  | .goto _ => N L st σ
  | .if_icmp .eq _ => match st with
    | .int y :: .int x :: r => (x = y → K i.2.1 L r σ) ∧ (¬ x = y → N L r σ)
    | _ => False
  | .if_icmp .ne _ => match st with
    | .int y :: .int x :: r => (¬ x = y → K i.2.1 L r σ) ∧ (x = y → N L r σ)
    | _ => False
  | .if_icmp .lt _ => match st with
    | .int y :: .int x :: r => (x < y → K i.2.1 L r σ) ∧ (¬ x < y → N L r σ)
    | _ => False
  | .if_icmp .ge _ => match st with
    | .int y :: .int x :: r => (y ≤ x → K i.2.1 L r σ) ∧ (¬ y ≤ x → N L r σ)
    | _ => False
  | .if_icmp .gt _ => match st with
    | .int y :: .int x :: r => (y < x → K i.2.1 L r σ) ∧ (¬ y < x → N L r σ)
    | _ => False
  | .if_icmp .le _ => match st with
    | .int y :: .int x :: r => (x ≤ y → K i.2.1 L r σ) ∧ (¬ x ≤ y → N L r σ)
    | _ => False
  | .ifCond .eq _ => match st with
    | .int x :: r => (x = 0 → K i.2.1 L r σ) ∧ (¬ x = 0 → N L r σ)
    | _ => False
  | .ifCond .ne _ => match st with
    | .int x :: r => (¬ x = 0 → K i.2.1 L r σ) ∧ (x = 0 → N L r σ)
    | _ => False
  | .ifCond .lt _ => match st with
    | .int x :: r => (x < 0 → K i.2.1 L r σ) ∧ (¬ x < 0 → N L r σ)
    | _ => False
  | .ifCond .ge _ => match st with
    | .int x :: r => (0 ≤ x → K i.2.1 L r σ) ∧ (¬ 0 ≤ x → N L r σ)
    | _ => False
  | .ifCond .gt _ => match st with
    | .int x :: r => (0 < x → K i.2.1 L r σ) ∧ (¬ 0 < x → N L r σ)
    | _ => False
  | .ifCond .le _ => match st with
    | .int x :: r => (x ≤ 0 → K i.2.1 L r σ) ∧ (¬ x ≤ 0 → N L r σ)
    | _ => False
  | _ => False
/-- a stretch: each instruction with the place of the next -/
def sw_rn (G : sw_G) (K : Nat → sw_L → List Value → sw_St → Prop) : Nat → List (sw_I × Nat) → sw_L → List Value → sw_St → Prop
  | pc, [], L, st, σ => K pc L st σ
  | _, q :: r, L, st, σ => sw_ex G q.1 L st σ K (fun L' st' σ' => sw_rn G K q.2 r L' st' σ')
def sw_ck (M : sw_M) : Nat → List (sw_I × Nat) → Bool
  | _, [] => true
  | pc, q :: r => (match decode M.2.1 pc with
    | .ok i => decide (sw_tr M.2.2.2.2 M.2.2.1 pc i.1 i.2 = some q)
    | .error _ => false) && sw_ck M q.2 r
theorem sw_tg_sp {pc t : Nat} {off : Int} (h : sw_tg pc off = some t) : (pc : Int) + off = (t : Int) := by
  unfold sw_tg at h
  split at h
  · next e => cases h; exact e
  · cases h
theorem sw_ff_lt : (sw_ff.all fun q => decide (q.2.2.2.1 < 1000)) = true := by decide +kernel
theorem sw_fl_lt {own idx : Nat} {w : Nat × Nat} (h : sw_fl own idx = some w) : w.2 < 1000 := by
  unfold sw_fl at h
  obtain ⟨q, hq, he⟩ := Option.map_eq_some_iff.mp h
  have h3 := List.all_eq_true.mp sw_ff_lt q (List.mem_of_find?_eq_some hq)
  subst he
  exact of_decide_eq_true h3
section sw_one
variable {E : sw_E} {G : sw_G} {M : sw_M} {d pc : Nat} {L : sw_L} {st : List Value} {σ : sw_St} {Q : Option Value → sw_St → Prop}
set_option maxHeartbeats 4000000 in
theorem sw_one {i : Instr} {len : Nat} {q : sw_I × Nat} {N : sw_L → List Value → sw_St → Prop} (hd : decode M.2.1 pc = .ok (i, len)) (ht : sw_tr M.2.2.2.2 M.2.2.1 pc i len = some q) (h : sw_ex G q.1 L st σ (fun pc' L' st' σ' => sw_W E G M d pc' L' st' σ' Q) N) (hn : ∀ L' st' σ', N L' st' σ' → sw_W E G M d q.2 L' st' σ' Q) : sw_W E G M d pc L st σ Q := by
  unfold sw_tr at ht
  split at ht
  · split at ht
    · next hlen => subst hlen; cases ht; exact so_iconst hd rfl (hn _ _ _ h)
    · cases ht
  · split at ht
    · next hlen => subst hlen; cases ht; exact so_bipush hd rfl (hn _ _ _ h)
    · cases ht
  · split at ht
    · next hlen => subst hlen; cases ht; exact so_sipush hd rfl (hn _ _ _ h)
    · cases ht
  · split at ht
    · next hlen => subst hlen; obtain ⟨v, hv, rfl⟩ := Option.map_eq_some_iff.mp ht; exact so_ldc hd hv (hn _ _ _ h)
    · cases ht
  · split at ht
    · next hlen => subst hlen; obtain ⟨v, hv, rfl⟩ := Option.map_eq_some_iff.mp ht; exact so_ldcw hd hv (hn _ _ _ h)
    · cases ht
  · split at ht
    · next hlen => subst hlen; obtain ⟨v, hv, rfl⟩ := Option.map_eq_some_iff.mp ht; exact so_ldc2 hd hv (hn _ _ _ h)
    · cases ht
  · split at ht
    · next hlen => subst hlen; cases ht; exact so_lconst hd rfl (hn _ _ _ h)
    · cases ht
  · split at ht
    · next hlen =>
      subst hlen; cases ht
      dsimp only [sw_ex] at h
      split at h
      · next hv => exact so_iload hd hv (hn _ _ _ h)
      · exact h.elim
    · cases ht
  · split at ht
    · next hlen =>
      subst hlen; cases ht
      dsimp only [sw_ex] at h
      split at h
      · next hv => exact so_iload_n hd hv (hn _ _ _ h)
      · exact h.elim
    · cases ht
  · split at ht
    · next hlen =>
      subst hlen; cases ht
      dsimp only [sw_ex] at h
      split at h
      · next hv => exact so_lload hd hv (hn _ _ _ h)
      · exact h.elim
    · cases ht
  · split at ht
    · next hlen =>
      subst hlen; cases ht
      dsimp only [sw_ex] at h
      split at h
      · next hv => exact so_lload_n hd hv (hn _ _ _ h)
      · exact h.elim
    · cases ht
  · split at ht
    · next hlen =>
      subst hlen; cases ht
      dsimp only [sw_ex] at h
      split at h
      · next hv => exact so_aload hd hv (hn _ _ _ h)
      · exact h.elim
    · cases ht
  · split at ht
    · next hlen =>
      subst hlen; cases ht
      dsimp only [sw_ex] at h
      split at h
      · next hv => exact so_aload_n hd hv (hn _ _ _ h)
      · exact h.elim
    · cases ht
  · split at ht
    · next hlen =>
      obtain ⟨rfl, hb⟩ := hlen; cases ht
      dsimp only [sw_ex] at h
      split at h
      · exact so_istore hd hb (hn _ _ _ h)
      · exact h.elim
    · cases ht
  · split at ht
    · next hlen =>
      obtain ⟨rfl, hb⟩ := hlen; cases ht
      dsimp only [sw_ex] at h
      split at h
      · exact so_istore_n hd hb (hn _ _ _ h)
      · exact h.elim
    · cases ht
  · split at ht
    · next hlen =>
      obtain ⟨rfl, hb⟩ := hlen; cases ht
      dsimp only [sw_ex] at h
      split at h
      · exact so_lstore hd hb (hn _ _ _ h)
      · exact h.elim
    · cases ht
  · split at ht
    · next hlen =>
      obtain ⟨rfl, hb⟩ := hlen; cases ht
      dsimp only [sw_ex] at h
      split at h
      · exact so_lstore_n hd hb (hn _ _ _ h)
      · exact h.elim
    · cases ht
  · split at ht
    · next hlen =>
      obtain ⟨rfl, hb⟩ := hlen; cases ht
      dsimp only [sw_ex] at h
      split at h
      · exact so_astore hd hb (hn _ _ _ h)
      · exact h.elim
    · cases ht
  · split at ht
    · next hlen =>
      obtain ⟨rfl, hb⟩ := hlen; cases ht
      dsimp only [sw_ex] at h
      split at h
      · exact so_astore_n hd hb (hn _ _ _ h)
      · exact h.elim
    · cases ht
  · split at ht
    · next hlen =>
      obtain ⟨rfl, hb⟩ := hlen; cases ht
      dsimp only [sw_ex] at h
      split at h
      · next hv => exact so_iinc hd hv rfl hb (hn _ _ _ h)
      · exact h.elim
    · cases ht
  · split at ht
    · next hlen =>
      subst hlen; obtain ⟨w, hw, rfl⟩ := Option.map_eq_some_iff.mp ht
      have e1 : (1000 * w.1 + w.2) / 1000 = w.1 := by have := sw_fl_lt hw; omega
      have e2 : (1000 * w.1 + w.2) % 1000 = w.2 := by have := sw_fl_lt hw; omega
      dsimp only [sw_ex] at h
      rw [e1, e2] at h
      split at h
      · obtain ⟨h1, h2⟩ := h
        split at h2
        · next hk3 =>
          obtain ⟨v, hv, h3⟩ := h2
          refine so_get hd hw h1 ?_
          have e3 : ∀ o, σ.2.2 o w.2 = some v → sw_fv σ w.1 o w.2 = .ref v := fun o hv => by unfold sw_fv; rw [hk3, hv]; rfl
          rw [e3 _ hv]
          exact hn _ _ _ h3
        · exact so_get hd hw h1 (hn _ _ _ h2)
      · exact h.elim
    · cases ht
  · split at ht
    · next hlen =>
      subst hlen; obtain ⟨w, hw, rfl⟩ := Option.map_eq_some_iff.mp ht
      have e1 : (1000 * w.1 + w.2) / 1000 = w.1 := by have := sw_fl_lt hw; omega
      have e2 : (1000 * w.1 + w.2) % 1000 = w.2 := by have := sw_fl_lt hw; omega
      dsimp only [sw_ex] at h
      rw [e1, e2] at h
      split at h
      · obtain ⟨h1, h2, h3⟩ := h
        refine so_putI hd hw h1 ?_ (hn _ _ _ h3)
        split at h2
        · next e => exact Or.inl e
        · next e => exact Or.inr ⟨e, h2⟩
        · exact h2.elim
      · exact so_putL hd hw h.1 h.2.1 (hn _ _ _ h.2.2)
      · exact so_putR hd hw h.1 h.2.1 (hn _ _ _ h.2.2)
      · exact h.elim
    · cases ht
  · split at ht
    · next hlen =>
      subst hlen; cases ht
      dsimp only [sw_ex] at h
      split at h
      · exact so_iaload hd h.1 h.2.1 (hn _ _ _ h.2.2)
      · exact h.elim
    · cases ht
  · split at ht
    · next hlen =>
      subst hlen; cases ht
      dsimp only [sw_ex] at h
      split at h
      · exact so_baload hd h.1 h.2.1 (hn _ _ _ h.2.2)
      · exact h.elim
    · cases ht
  · split at ht
    · next hlen =>
      subst hlen; cases ht
      dsimp only [sw_ex] at h
      split at h
      · exact so_caload hd h.1 h.2.1 (hn _ _ _ h.2.2)
      · exact h.elim
    · cases ht
  · split at ht
    · next hlen =>
      subst hlen; cases ht
      dsimp only [sw_ex] at h
      split at h
      · exact so_laload hd h.1 h.2.1 (hn _ _ _ h.2.2)
      · exact h.elim
    · cases ht
  · split at ht
    · next hlen =>
      subst hlen; cases ht
      dsimp only [sw_ex] at h
      split at h
      · obtain ⟨h1, h2, v, h3, h4⟩ := h; exact so_aaload hd h1 h2 h3 (hn _ _ _ h4)
      · exact h.elim
    · cases ht
  · split at ht
    · next hlen =>
      subst hlen; cases ht
      dsimp only [sw_ex] at h
      split at h
      · exact so_iastore hd h.1 h.2.1 (hn _ _ _ h.2.2)
      · exact h.elim
    · cases ht
  · split at ht
    · next hlen =>
      subst hlen; cases ht
      dsimp only [sw_ex] at h
      split at h
      · exact so_bastore hd h.1 h.2.1 (hn _ _ _ h.2.2)
      · exact h.elim
    · cases ht
  · split at ht
    · next hlen =>
      subst hlen; cases ht
      dsimp only [sw_ex] at h
      split at h
      · exact so_lastore hd h.1 h.2.1 (hn _ _ _ h.2.2)
      · exact h.elim
    · cases ht
  · split at ht
    · next hlen =>
      subst hlen; cases ht
      dsimp only [sw_ex] at h
      split at h
      · obtain ⟨h1, h2⟩ := h
        simp only [Bool.or_eq_true] at h1
        rcases h1 with ((h1 | h1) | h1) | h1
        · exact so_alen hd (t := 0) (by decide) h1 rfl (hn _ _ _ h2)
        · exact so_alen hd (t := 1) (by decide) h1 rfl (hn _ _ _ h2)
        · exact so_alen hd (t := 2) (by decide) h1 rfl (hn _ _ _ h2)
        · exact so_alen hd (t := 3) (by decide) h1 rfl (hn _ _ _ h2)
      · exact h.elim
    · cases ht
  · split at ht
    · next hlen =>
      subst hlen; cases ht
      dsimp only [sw_ex] at h
      split at h
      · exact so_iadd hd (hn _ _ _ h)
      · exact h.elim
    · cases ht
  · split at ht
    · next hlen =>
      subst hlen; cases ht
      dsimp only [sw_ex] at h
      split at h
      · exact so_isub hd (hn _ _ _ h)
      · exact h.elim
    · cases ht
  · split at ht
    · next hlen =>
      subst hlen; cases ht
      dsimp only [sw_ex] at h
      split at h
      · exact so_imul hd (hn _ _ _ h)
      · exact h.elim
    · cases ht
  · split at ht
    · next hlen =>
      subst hlen; cases ht
      dsimp only [sw_ex] at h
      split at h
      · exact so_iand hd (hn _ _ _ h)
      · exact h.elim
    · cases ht
  · split at ht
    · next hlen =>
      subst hlen; cases ht
      dsimp only [sw_ex] at h
      split at h
      · exact so_ior hd (hn _ _ _ h)
      · exact h.elim
    · cases ht
  · split at ht
    · next hlen =>
      subst hlen; cases ht
      dsimp only [sw_ex] at h
      split at h
      · exact so_ixor hd (hn _ _ _ h)
      · exact h.elim
    · cases ht
  · split at ht
    · next hlen =>
      subst hlen; cases ht
      dsimp only [sw_ex] at h
      split at h
      · exact so_ishl hd (hn _ _ _ h)
      · exact h.elim
    · cases ht
  · split at ht
    · next hlen =>
      subst hlen; cases ht
      dsimp only [sw_ex] at h
      split at h
      · exact so_ishr hd (hn _ _ _ h)
      · exact h.elim
    · cases ht
  · split at ht
    · next hlen =>
      subst hlen; cases ht
      dsimp only [sw_ex] at h
      split at h
      · exact so_idiv hd h.1 (hn _ _ _ h.2)
      · exact h.elim
    · cases ht
  · split at ht
    · next hlen =>
      subst hlen; cases ht
      dsimp only [sw_ex] at h
      split at h
      · exact so_irem hd h.1 (hn _ _ _ h.2)
      · exact h.elim
    · cases ht
  · split at ht
    · next hlen =>
      subst hlen; cases ht
      dsimp only [sw_ex] at h
      split at h
      · exact so_iushr hd rfl (hn _ _ _ h)
      · exact h.elim
    · cases ht
  · split at ht
    · next hlen =>
      subst hlen; cases ht
      dsimp only [sw_ex] at h
      split at h
      · exact so_ladd hd (hn _ _ _ h)
      · exact h.elim
    · cases ht
  · split at ht
    · next hlen =>
      subst hlen; cases ht
      dsimp only [sw_ex] at h
      split at h
      · exact so_lsub hd (hn _ _ _ h)
      · exact h.elim
    · cases ht
  · split at ht
    · next hlen =>
      subst hlen; cases ht
      dsimp only [sw_ex] at h
      split at h
      · exact so_lmul hd (hn _ _ _ h)
      · exact h.elim
    · cases ht
  · split at ht
    · next hlen =>
      subst hlen; cases ht
      dsimp only [sw_ex] at h
      split at h
      · exact so_land hd (hn _ _ _ h)
      · exact h.elim
    · cases ht
  · split at ht
    · next hlen =>
      subst hlen; cases ht
      dsimp only [sw_ex] at h
      split at h
      · exact so_ldiv hd h.1 (hn _ _ _ h.2)
      · exact h.elim
    · cases ht
  · split at ht
    · next hlen =>
      subst hlen; cases ht
      dsimp only [sw_ex] at h
      split at h
      · exact so_lrem hd h.1 (hn _ _ _ h.2)
      · exact h.elim
    · cases ht
  · split at ht
    · next hlen =>
      subst hlen; cases ht
      dsimp only [sw_ex] at h
      split at h
      · exact so_lcmp hd (hn _ _ _ h)
      · exact h.elim
    · cases ht
  · split at ht
    · next hlen =>
      subst hlen; cases ht
      dsimp only [sw_ex] at h
      split at h
      · exact so_i2l hd rfl (hn _ _ _ h)
      · exact h.elim
    · cases ht
  · split at ht
    · next hlen =>
      subst hlen; cases ht
      dsimp only [sw_ex] at h
      split at h
      · exact so_l2i hd rfl (hn _ _ _ h)
      · exact h.elim
    · cases ht
  · split at ht
    · next hlen =>
      subst hlen; cases ht
      dsimp only [sw_ex] at h
      split at h
      · exact so_i2b hd rfl (hn _ _ _ h)
      · exact h.elim
    · cases ht
  · split at ht
    · next hlen =>
      subst hlen; cases ht
      dsimp only [sw_ex] at h
      split at h
      · exact so_i2c hd rfl (hn _ _ _ h)
      · exact h.elim
    · cases ht
  · split at ht
    · next hlen =>
      subst hlen; cases ht
      dsimp only [sw_ex] at h
      split at h
      · exact so_dup hd h.1 (hn _ _ _ h.2)
      · exact h.elim
    · cases ht
  · split at ht
    · next hlen =>
      subst hlen; cases ht
      dsimp only [sw_ex] at h
      split at h
      · exact so_pop hd h.1 (hn _ _ _ h.2)
      · exact h.elim
    · cases ht
  · split at ht
    · next hlen =>
      subst hlen; cases ht
      dsimp only [sw_ex] at h
      split at h
      · exact so_dup_x1 hd h.1 h.2.1 (hn _ _ _ h.2.2)
      · exact h.elim
    · cases ht
  · split at ht
    · next hlen =>
      subst hlen; cases ht
      dsimp only [sw_ex] at h
      split at h
      · exact so_dup2_11 hd h.1 h.2.1 (hn _ _ _ h.2.2)
      · exact h.elim
    · cases ht
  · split at ht
    · next hlen => subst hlen; obtain ⟨t, hv, rfl⟩ := Option.map_eq_some_iff.mp ht; exact so_goto hd (sw_tg_sp hv) (hn _ _ _ h)
    · cases ht
  · split at ht
    · next cnd off hlen =>
      subst hlen; obtain ⟨t, hv, rfl⟩ := Option.map_eq_some_iff.mp ht
      cases cnd
      · dsimp only [sw_ex] at h
        split at h
        · exact so_icmp_eq hd (sw_tg_sp hv) h.1 (fun z => hn _ _ _ (h.2 z))
        · exact h.elim
      · dsimp only [sw_ex] at h
        split at h
        · exact so_icmp_ne hd (sw_tg_sp hv) h.1 (fun z => hn _ _ _ (h.2 z))
        · exact h.elim
      · dsimp only [sw_ex] at h
        split at h
        · exact so_icmp_lt hd (sw_tg_sp hv) h.1 (fun z => hn _ _ _ (h.2 z))
        · exact h.elim
      · dsimp only [sw_ex] at h
        split at h
        · exact so_icmp_ge hd (sw_tg_sp hv) h.1 (fun z => hn _ _ _ (h.2 z))
        · exact h.elim
      · dsimp only [sw_ex] at h
        split at h
        · exact so_icmp_gt hd (sw_tg_sp hv) h.1 (fun z => hn _ _ _ (h.2 z))
        · exact h.elim
      · dsimp only [sw_ex] at h
        split at h
        · exact so_icmp_le hd (sw_tg_sp hv) h.1 (fun z => hn _ _ _ (h.2 z))
        · exact h.elim
    · cases ht
  · split at ht
    · next cnd off hlen =>
      subst hlen; obtain ⟨t, hv, rfl⟩ := Option.map_eq_some_iff.mp ht
      cases cnd
      · dsimp only [sw_ex] at h
        split at h
        · exact so_if_eq hd (sw_tg_sp hv) h.1 (fun z => hn _ _ _ (h.2 z))
        · exact h.elim
      · dsimp only [sw_ex] at h
        split at h
        · exact so_if_ne hd (sw_tg_sp hv) h.1 (fun z => hn _ _ _ (h.2 z))
        · exact h.elim
      · dsimp only [sw_ex] at h
        split at h
        · exact so_if_lt hd (sw_tg_sp hv) h.1 (fun z => hn _ _ _ (h.2 z))
        · exact h.elim
      · dsimp only [sw_ex] at h
        split at h
        · exact so_if_ge hd (sw_tg_sp hv) h.1 (fun z => hn _ _ _ (h.2 z))
        · exact h.elim
      · dsimp only [sw_ex] at h
        split at h
        · exact so_if_gt hd (sw_tg_sp hv) h.1 (fun z => hn _ _ _ (h.2 z))
        · exact h.elim
      · dsimp only [sw_ex] at h
        split at h
        · exact so_if_le hd (sw_tg_sp hv) h.1 (fun z => hn _ _ _ (h.2 z))
        · exact h.elim
    · cases ht
  · cases ht
/-- a stretch is sound -/
theorem sw_go : ∀ (is : List (sw_I × Nat)) (pc : Nat) (L : sw_L) (st : List Value) (σ : sw_St), sw_ck M pc is = true → sw_rn G (fun pc' L' st' σ' => sw_W E G M d pc' L' st' σ' Q) pc is L st σ → sw_W E G M d pc L st σ Q
  | [], _, _, _, _, _, h => h
  | q :: r, pc, L, st, σ, hc, h => by
    unfold sw_ck at hc
    rw [Bool.and_eq_true] at hc
    obtain ⟨h1, h2⟩ := hc
    split at h1
    · next i hd =>
      exact sw_one (i := i.1) (len := i.2) hd (of_decide_eq_true h1) h (fun L' st' σ' h' => sw_go r q.2 L' st' σ' h2 h')
    · cases h1
end sw_one
/-- the same locals, picked -/
theorem sw_pick {E : sw_E} {G : sw_G} {M : sw_M} {d pc : Nat} {L L' : sw_L} {st : List Value} {σ : sw_St} {Q : Option Value → sw_St → Prop} (ks : List Nat) (hp : lv_pick L ks = L') (k : sw_W E G M d pc L' st σ Q) : sw_W E G M d pc L st σ Q := by
  intro p e s m args below meth c C A H locs ls hA hP hD hS hl
  refine k p e s m args below meth c C A H locs ls hA hP hD hS ⟨hl.1, hl.2.1, fun q hq => ?_⟩
  obtain ⟨q', h1, rfl⟩ := List.mem_map.mp hq
  rw [← hp] at h1
  obtain ⟨k', -, hk⟩ := List.mem_filterMap.mp h1
  exact hl.2.2 _ (List.mem_map.mpr ⟨q', List.mem_of_getElem? hk, rfl⟩)
/-- switches: each value its place, else the default's -/
def sw_sp (x : Int32) (df : Nat) (K : Nat → Prop) : List (Int32 × Nat) → Prop
  | [] => K df
  | q :: r => (x = q.1 → K q.2) ∧ (¬ x = q.1 → sw_sp x df K r)
def sw_ckT (pc : Nat) (dflt lo hi : Int) (offs : Array Int) (vs : List (Int32 × Nat)) (df : Nat) : Bool :=
  decide ((pc : Int) + dflt = (df : Int)) && decide ((vs.length : Int) = hi - lo + 1) && (List.range vs.length).all fun j => decide ((vs.getD j (0, 0)).1.toInt = lo + j) && (match offs[j]? with
    | some off => decide ((pc : Int) + off = ((vs.getD j (0, 0)).2 : Int))
    | none => false)
theorem sw_sp_of {x : Int32} {df : Nat} {K : Nat → Prop} : ∀ (vs : List (Int32 × Nat)), sw_sp x df K vs → (∃ (j : Nat) (q : Int32 × Nat), vs[j]? = some q ∧ x = q.1 ∧ K q.2) ∨ ((∀ q ∈ vs, ¬ x = q.1) ∧ K df)
  | [], h => Or.inr ⟨fun _ hq => absurd hq List.not_mem_nil, h⟩
  | q :: r, h => by
    by_cases hx : x = q.1
    · exact Or.inl ⟨0, q, rfl, hx, h.1 hx⟩
    · rcases sw_sp_of r (h.2 hx) with ⟨j, w, h1, h2, h3⟩ | ⟨h1, h2⟩
      · exact Or.inl ⟨j + 1, w, h1, h2, h3⟩
      · refine Or.inr ⟨fun w hw => ?_, h2⟩
        rcases List.mem_cons.mp hw with rfl | hw
        · exact hx
        · exact h1 w hw
theorem sw_table {E : sw_E} {G : sw_G} {M : sw_M} {d pc : Nat} {L : sw_L} {st : List Value} {σ : sw_St} {Q : Option Value → sw_St → Prop} {dflt lo hi : Int} {offs : Array Int} {len : Nat} {x : Int32} {df : Nat} (vs : List (Int32 × Nat)) (hd : decode M.2.1 pc = .ok (.tableswitch dflt lo hi offs, len)) (hc : sw_ckT pc dflt lo hi offs vs df = true) (h : sw_sp x df (fun t => sw_W E G M d t L st σ Q) vs) : sw_W E G M d pc L (.int x :: st) σ Q := by
  unfold sw_ckT at hc
  simp only [Bool.and_eq_true, decide_eq_true_eq, List.all_eq_true, List.mem_range] at hc
  obtain ⟨⟨h1, h2⟩, h3⟩ := hc
  rcases sw_sp_of vs h with ⟨j, q, e1, e2, e3⟩ | ⟨e1, e2⟩
  · have hj : j < vs.length := (List.getElem?_eq_some_iff.mp e1).1
    have hg : vs.getD j (0, 0) = q := by rw [List.getD_eq_getElem?_getD, e1]; rfl
    obtain ⟨g1, g2⟩ := h3 j hj
    rw [hg] at g1 g2
    split at g2
    · next off ho =>
      have ex : x.toInt = lo + j := by rw [e2]; exact g1
      have eo : (x.toInt - lo).toNat = j := by omega
      exact so_tableIn hd (by omega) (by omega) (by rw [eo]; exact ho) (of_decide_eq_true g2) e3
    · cases g2
  · refine so_tableOut hd ?_ h1 e2
    rcases Int.lt_or_le x.toInt lo with hlo | hlo
    · exact Or.inl hlo
    · rcases Int.lt_or_le hi x.toInt with hhi | hhi
      · exact Or.inr hhi
      · exfalso
        have hj : (x.toInt - lo).toNat < vs.length := by omega
        obtain ⟨g1, -⟩ := h3 _ hj
        have hg : vs[(x.toInt - lo).toNat]? = some (vs.getD (x.toInt - lo).toNat (0, 0)) := by
          rw [List.getD_eq_getElem?_getD, List.getElem?_eq_getElem hj]; rfl
        refine e1 _ (List.mem_of_getElem? hg) ?_
        apply Int32.toInt_inj.mp
        rw [g1]
        omega
def sw_ckL (pc : Nat) (dflt : Int) (ps : Array (Int × Int)) (vs : List (Int32 × Nat)) (df : Nat) : Bool :=
  decide ((pc : Int) + dflt = (df : Int)) && ((ps.toList.zip (ps.toList.drop 1)).all fun (a, next) => a.1 < next.1) && decide (ps.toList.map (fun q => (q.1, (pc : Int) + q.2)) = vs.map fun q => (q.1.toInt, (q.2 : Int)))
theorem sw_sp_off {x : Int32} {df pc : Nat} {dflt : Int} {K : Nat → Prop} (hdf : (pc : Int) + dflt = (df : Int)) : ∀ (vs : List (Int32 × Nat)) (ps : List (Int × Int)), ps.map (fun q => (q.1, (pc : Int) + q.2)) = vs.map (fun q => (q.1.toInt, (q.2 : Int))) → sw_sp x df K vs → ∃ t : Nat, (pc : Int) + Op.lookupswitch.offset ps dflt x.toInt = (t : Int) ∧ K t
  | [], [], _, h => ⟨df, hdf, h⟩
  | [], _ :: _, he, _ => by cases he
  | _ :: _, [], he, _ => by cases he
  | q :: r, w :: u, he, h => by
    rw [List.map_cons, List.map_cons] at he
    obtain ⟨h1, h2⟩ := List.cons.inj he
    obtain ⟨g1, g2⟩ := Prod.mk.inj h1
    by_cases hx : x = q.1
    · refine ⟨q.2, ?_, h.1 hx⟩
      have : w.1 = x.toInt := by rw [hx]; exact g1
      unfold Op.lookupswitch.offset
      simp [this]
      exact g2
    · obtain ⟨t, t1, t2⟩ := sw_sp_off hdf r u h2 (h.2 hx)
      refine ⟨t, ?_, t2⟩
      rw [← t1]
      have : ¬ w.1 = x.toInt := fun z => hx (Int32.toInt_inj.mp (by rw [← z]; exact g1))
      rw [show Op.lookupswitch.offset (w :: u) dflt x.toInt = Op.lookupswitch.offset u dflt x.toInt from if_neg this]
theorem sw_look {E : sw_E} {G : sw_G} {M : sw_M} {d pc : Nat} {L : sw_L} {st : List Value} {σ : sw_St} {Q : Option Value → sw_St → Prop} {dflt : Int} {ps : Array (Int × Int)} {len : Nat} {x : Int32} {df : Nat} (vs : List (Int32 × Nat)) (hd : decode M.2.1 pc = .ok (.lookupswitch dflt ps, len)) (hc : sw_ckL pc dflt ps vs df = true) (h : sw_sp x df (fun t => sw_W E G M d t L st σ Q) vs) : sw_W E G M d pc L (.int x :: st) σ Q := by
  unfold sw_ckL at hc
  simp only [Bool.and_eq_true, decide_eq_true_eq] at hc
  obtain ⟨⟨h1, h2⟩, h3⟩ := hc
  obtain ⟨t, t1, t2⟩ := sw_sp_off h1 vs ps.toList h3 h
  exact so_lookup hd h2 rfl t1 t2
end
section
/-! The methods, what they need to be called, the links of the calls. -/
def sw_KI (E : sw_E) (G : sw_G) (N : sw_M) (d : Nat) (av : List Value) (σ : sw_St) (Q : Int32 → sw_St → Prop) : Prop := sw_K E G N d av σ (fun r s => ∃ v, r = some (.int v) ∧ Q v s)
def sw_KL (E : sw_E) (G : sw_G) (N : sw_M) (d : Nat) (av : List Value) (σ : sw_St) (Q : Int64 → sw_St → Prop) : Prop := sw_K E G N d av σ (fun r s => ∃ v, r = some (.long v) ∧ Q v s)
def sw_KV (E : sw_E) (G : sw_G) (N : sw_M) (d : Nat) (av : List Value) (σ : sw_St) (Q : sw_St → Prop) : Prop := sw_K E G N d av σ (fun r s => r = none ∧ Q s)
theorem sw_nz {v : Int32} (h : v = 0 ∨ v = 1) : narrow .boolean (.int v) = .int v := by rcases h with rfl | rfl <;> rfl
def m_X0_emit : sw_M := (yX0_emit, cX0_emit, 2, none, 0)
theorem mk_X0_emit : sw_okV m_X0_emit := ⟨⟨sw_T_at 223 (by decide +kernel), sw_T_at 129 (by decide +kernel), by decide, by decide +kernel, by decide +kernel⟩, sw_T_at 221 (by decide +kernel), sw_T_at 222 (by decide +kernel)⟩
def m_X1_look : sw_M := (yX1_look, cX1_look, 3, none, 1)
theorem mk_X1_look : sw_okV m_X1_look := ⟨⟨sw_T_at 948 (by decide +kernel), sw_T_at 135 (by decide +kernel), by decide, by decide +kernel, by decide +kernel⟩, sw_T_at 946 (by decide +kernel), sw_T_at 947 (by decide +kernel)⟩
def m_X1_daysAtMost : sw_M := (yX1_daysAtMost, cX1_daysAtMost, 2, some .int, 1)
theorem mk_X1_daysAtMost : sw_okV m_X1_daysAtMost := ⟨⟨sw_T_at 975 (by decide +kernel), sw_T_at 135 (by decide +kernel), by decide, by decide +kernel, by decide +kernel⟩, sw_T_at 973 (by decide +kernel), sw_T_at 974 (by decide +kernel)⟩
def m_X1_daysToHome : sw_M := (yX1_daysToHome, cX1_daysToHome, 4, some .int, 1)
theorem mk_X1_daysToHome : sw_okV m_X1_daysToHome := ⟨⟨sw_T_at 971 (by decide +kernel), sw_T_at 135 (by decide +kernel), by decide, by decide +kernel, by decide +kernel⟩, sw_T_at 969 (by decide +kernel), sw_T_at 970 (by decide +kernel)⟩
def m_X1_fewestChanges : sw_M := (yX1_fewestChanges, cX1_fewestChanges, 4, some .int, 1)
theorem mk_X1_fewestChanges : sw_okV m_X1_fewestChanges := ⟨⟨sw_T_at 984 (by decide +kernel), sw_T_at 135 (by decide +kernel), by decide, by decide +kernel, by decide +kernel⟩, sw_T_at 982 (by decide +kernel), sw_T_at 983 (by decide +kernel)⟩
def m_X1_tryDays : sw_M := (yX1_tryDays, cX1_tryDays, 14, none, 1)
theorem mk_X1_tryDays : sw_okV m_X1_tryDays := ⟨⟨sw_T_at 988 (by decide +kernel), sw_T_at 135 (by decide +kernel), by decide, by decide +kernel, by decide +kernel⟩, sw_T_at 987 (by decide +kernel), sw_T_at 24 (by decide +kernel)⟩
def m_X1_tryThrough : sw_M := (yX1_tryThrough, cX1_tryThrough, 13, none, 1)
theorem mk_X1_tryThrough : sw_okV m_X1_tryThrough := ⟨⟨sw_T_at 999 (by decide +kernel), sw_T_at 135 (by decide +kernel), by decide, by decide +kernel, by decide +kernel⟩, sw_T_at 998 (by decide +kernel), sw_T_at 25 (by decide +kernel)⟩
def m_X1_isFewer : sw_M := (yX1_isFewer, cX1_isFewer, 3, some .boolean, 1)
theorem mk_X1_isFewer : sw_okV m_X1_isFewer := ⟨⟨sw_T_at 992 (by decide +kernel), sw_T_at 135 (by decide +kernel), by decide, by decide +kernel, by decide +kernel⟩, sw_T_at 990 (by decide +kernel), sw_T_at 991 (by decide +kernel)⟩
def m_X1_bestRumour : sw_M := (yX1_bestRumour, cX1_bestRumour, 8, some .int, 1)
theorem mk_X1_bestRumour : sw_okV m_X1_bestRumour := ⟨⟨sw_T_at 1009 (by decide +kernel), sw_T_at 135 (by decide +kernel), by decide, by decide +kernel, by decide +kernel⟩, sw_T_at 1007 (by decide +kernel), sw_T_at 1008 (by decide +kernel)⟩
def m_X1_fewestMiles : sw_M := (yX1_fewestMiles, cX1_fewestMiles, 6, some .int, 1)
theorem mk_X1_fewestMiles : sw_okV m_X1_fewestMiles := ⟨⟨sw_T_at 1017 (by decide +kernel), sw_T_at 135 (by decide +kernel), by decide, by decide +kernel, by decide +kernel⟩, sw_T_at 1015 (by decide +kernel), sw_T_at 1016 (by decide +kernel)⟩
def m_X1_shorten : sw_M := (yX1_shorten, cX1_shorten, 5, none, 1)
theorem mk_X1_shorten : sw_okV m_X1_shorten := ⟨⟨sw_T_at 1022 (by decide +kernel), sw_T_at 135 (by decide +kernel), by decide, by decide +kernel, by decide +kernel⟩, sw_T_at 1020 (by decide +kernel), sw_T_at 1021 (by decide +kernel)⟩
def m_X1_bestWait : sw_M := (yX1_bestWait, cX1_bestWait, 8, some .int, 1)
theorem mk_X1_bestWait : sw_okV m_X1_bestWait := ⟨⟨sw_T_at 1030 (by decide +kernel), sw_T_at 135 (by decide +kernel), by decide, by decide +kernel, by decide +kernel⟩, sw_T_at 1028 (by decide +kernel), sw_T_at 1029 (by decide +kernel)⟩
def m_X1_leastCoat : sw_M := (yX1_leastCoat, cX1_leastCoat, 7, some .int, 1)
theorem mk_X1_leastCoat : sw_okV m_X1_leastCoat := ⟨⟨sw_T_at 1039 (by decide +kernel), sw_T_at 135 (by decide +kernel), by decide, by decide +kernel, by decide +kernel⟩, sw_T_at 1037 (by decide +kernel), sw_T_at 1038 (by decide +kernel)⟩
def m_X1_milesOf : sw_M := (yX1_milesOf, cX1_milesOf, 4, some .int, 1)
theorem mk_X1_milesOf : sw_okV m_X1_milesOf := ⟨⟨sw_T_at 1043 (by decide +kernel), sw_T_at 135 (by decide +kernel), by decide, by decide +kernel, by decide +kernel⟩, sw_T_at 1041 (by decide +kernel), sw_T_at 1042 (by decide +kernel)⟩
def m_X1_leastWatch : sw_M := (yX1_leastWatch, cX1_leastWatch, 5, some .int, 1)
theorem mk_X1_leastWatch : sw_okV m_X1_leastWatch := ⟨⟨sw_T_at 1051 (by decide +kernel), sw_T_at 135 (by decide +kernel), by decide, by decide +kernel, by decide +kernel⟩, sw_T_at 1049 (by decide +kernel), sw_T_at 1050 (by decide +kernel)⟩
def m_X1_fillNear : sw_M := (yX1_fillNear, cX1_fillNear, 3, none, 1)
theorem mk_X1_fillNear : sw_okV m_X1_fillNear := ⟨⟨sw_T_at 1055 (by decide +kernel), sw_T_at 135 (by decide +kernel), by decide, by decide +kernel, by decide +kernel⟩, sw_T_at 1053 (by decide +kernel), sw_T_at 1054 (by decide +kernel)⟩
def m_X1_watches : sw_M := (yX1_watches, cX1_watches, 4, some .boolean, 1)
theorem mk_X1_watches : sw_okV m_X1_watches := ⟨⟨sw_T_at 1059 (by decide +kernel), sw_T_at 135 (by decide +kernel), by decide, by decide +kernel, by decide +kernel⟩, sw_T_at 1057 (by decide +kernel), sw_T_at 1058 (by decide +kernel)⟩
def m_X1_countWays : sw_M := (yX1_countWays, cX1_countWays, 8, some .long, 1)
theorem mk_X1_countWays : sw_okV m_X1_countWays := ⟨⟨sw_T_at 1068 (by decide +kernel), sw_T_at 135 (by decide +kernel), by decide, by decide +kernel, by decide +kernel⟩, sw_T_at 1066 (by decide +kernel), sw_T_at 1067 (by decide +kernel)⟩
def m_X1_leadEnds : sw_M := (yX1_leadEnds, cX1_leadEnds, 5, none, 1)
theorem mk_X1_leadEnds : sw_okV m_X1_leadEnds := ⟨⟨sw_T_at 1075 (by decide +kernel), sw_T_at 135 (by decide +kernel), by decide, by decide +kernel, by decide +kernel⟩, sw_T_at 1073 (by decide +kernel), sw_T_at 1074 (by decide +kernel)⟩
def m_X1_takeFelt : sw_M := (yX1_takeFelt, cX1_takeFelt, 5, some .boolean, 1)
theorem mk_X1_takeFelt : sw_okV m_X1_takeFelt := ⟨⟨sw_T_at 1083 (by decide +kernel), sw_T_at 135 (by decide +kernel), by decide, by decide +kernel, by decide +kernel⟩, sw_T_at 1081 (by decide +kernel), sw_T_at 1082 (by decide +kernel)⟩
def m_X1_fillCrimps : sw_M := (yX1_fillCrimps, cX1_fillCrimps, 5, none, 1)
theorem mk_X1_fillCrimps : sw_okV m_X1_fillCrimps := ⟨⟨sw_T_at 1091 (by decide +kernel), sw_T_at 135 (by decide +kernel), by decide, by decide +kernel, by decide +kernel⟩, sw_T_at 1089 (by decide +kernel), sw_T_at 1090 (by decide +kernel)⟩
def m_X1_curiousBits : sw_M := (yX1_curiousBits, cX1_curiousBits, 7, some .int, 1)
theorem mk_X1_curiousBits : sw_okV m_X1_curiousBits := ⟨⟨sw_T_at 1095 (by decide +kernel), sw_T_at 135 (by decide +kernel), by decide, by decide +kernel, by decide +kernel⟩, sw_T_at 1093 (by decide +kernel), sw_T_at 1094 (by decide +kernel)⟩
def m_X1_curiousBy : sw_M := (yX1_curiousBy, cX1_curiousBy, 5, some .int, 1)
theorem mk_X1_curiousBy : sw_okV m_X1_curiousBy := ⟨⟨sw_T_at 1099 (by decide +kernel), sw_T_at 135 (by decide +kernel), by decide, by decide +kernel, by decide +kernel⟩, sw_T_at 1097 (by decide +kernel), sw_T_at 1098 (by decide +kernel)⟩
def m_X1_telling : sw_M := (yX1_telling, cX1_telling, 11, some .int, 1)
theorem mk_X1_telling : sw_okV m_X1_telling := ⟨⟨sw_T_at 1107 (by decide +kernel), sw_T_at 135 (by decide +kernel), by decide, by decide +kernel, by decide +kernel⟩, sw_T_at 1105 (by decide +kernel), sw_T_at 1106 (by decide +kernel)⟩
def m_X1_mostLeft : sw_M := (yX1_mostLeft, cX1_mostLeft, 6, some .int, 1)
theorem mk_X1_mostLeft : sw_okV m_X1_mostLeft := ⟨⟨sw_T_at 1111 (by decide +kernel), sw_T_at 135 (by decide +kernel), by decide, by decide +kernel, by decide +kernel⟩, sw_T_at 1109 (by decide +kernel), sw_T_at 1110 (by decide +kernel)⟩
def m_X2_setSheep : sw_M := (yX2_setSheep, cX2_setSheep, 4, none, 2)
theorem mk_X2_setSheep : sw_okV m_X2_setSheep := ⟨⟨sw_T_at 875 (by decide +kernel), sw_T_at 132 (by decide +kernel), by decide, by decide +kernel, by decide +kernel⟩, sw_T_at 873 (by decide +kernel), sw_T_at 874 (by decide +kernel)⟩
def m_X2_setField : sw_M := (yX2_setField, cX2_setField, 4, none, 2)
theorem mk_X2_setField : sw_okV m_X2_setField := ⟨⟨sw_T_at 879 (by decide +kernel), sw_T_at 132 (by decide +kernel), by decide, by decide +kernel, by decide +kernel⟩, sw_T_at 877 (by decide +kernel), sw_T_at 878 (by decide +kernel)⟩
def m_X2_leads : sw_M := (yX2_leads, cX2_leads, 4, some .boolean, 2)
theorem mk_X2_leads : sw_okV m_X2_leads := ⟨⟨sw_T_at 1135 (by decide +kernel), sw_T_at 132 (by decide +kernel), by decide, by decide +kernel, by decide +kernel⟩, sw_T_at 1133 (by decide +kernel), sw_T_at 1134 (by decide +kernel)⟩
def m_X2_choice : sw_M := (yX2_choice, cX2_choice, 3, some .int, 2)
theorem mk_X2_choice : sw_okV m_X2_choice := ⟨⟨sw_T_at 867 (by decide +kernel), sw_T_at 132 (by decide +kernel), by decide, by decide +kernel, by decide +kernel⟩, sw_T_at 865 (by decide +kernel), sw_T_at 866 (by decide +kernel)⟩
def m_X2_luring : sw_M := (yX2_luring, cX2_luring, 10, some .int, 2)
theorem mk_X2_luring : sw_okV m_X2_luring := ⟨⟨sw_T_at 871 (by decide +kernel), sw_T_at 132 (by decide +kernel), by decide, by decide +kernel, by decide +kernel⟩, sw_T_at 869 (by decide +kernel), sw_T_at 870 (by decide +kernel)⟩
def m_X2_mostLuring : sw_M := (yX2_mostLuring, cX2_mostLuring, 6, some .int, 2)
theorem mk_X2_mostLuring : sw_okV m_X2_mostLuring := ⟨⟨sw_T_at 918 (by decide +kernel), sw_T_at 132 (by decide +kernel), by decide, by decide +kernel, by decide +kernel⟩, sw_T_at 916 (by decide +kernel), sw_T_at 917 (by decide +kernel)⟩
def m_X2_pullBy : sw_M := (yX2_pullBy, cX2_pullBy, 5, some .int, 2)
theorem mk_X2_pullBy : sw_okV m_X2_pullBy := ⟨⟨sw_T_at 914 (by decide +kernel), sw_T_at 132 (by decide +kernel), by decide, by decide +kernel, by decide +kernel⟩, sw_T_at 912 (by decide +kernel), sw_T_at 913 (by decide +kernel)⟩
def m_X2_passThrough : sw_M := (yX2_passThrough, cX2_passThrough, 6, none, 2)
theorem mk_X2_passThrough : sw_okV m_X2_passThrough := ⟨⟨sw_T_at 963 (by decide +kernel), sw_T_at 132 (by decide +kernel), by decide, by decide +kernel, by decide +kernel⟩, sw_T_at 961 (by decide +kernel), sw_T_at 962 (by decide +kernel)⟩
def m_X2_passDay : sw_M := (yX2_passDay, cX2_passDay, 5, some .int, 2)
theorem mk_X2_passDay : sw_okV m_X2_passDay := ⟨⟨sw_T_at 1152 (by decide +kernel), sw_T_at 132 (by decide +kernel), by decide, by decide +kernel, by decide +kernel⟩, sw_T_at 1150 (by decide +kernel), sw_T_at 1151 (by decide +kernel)⟩
def m_X2_goOn : sw_M := (yX2_goOn, cX2_goOn, 6, none, 2)
theorem mk_X2_goOn : sw_okV m_X2_goOn := ⟨⟨sw_T_at 959 (by decide +kernel), sw_T_at 132 (by decide +kernel), by decide, by decide +kernel, by decide +kernel⟩, sw_T_at 957 (by decide +kernel), sw_T_at 958 (by decide +kernel)⟩
def m_X2_worthOf : sw_M := (yX2_worthOf, cX2_worthOf, 3, some .int, 2)
theorem mk_X2_worthOf : sw_okV m_X2_worthOf := ⟨⟨sw_T_at 926 (by decide +kernel), sw_T_at 132 (by decide +kernel), by decide, by decide +kernel, by decide +kernel⟩, sw_T_at 924 (by decide +kernel), sw_T_at 925 (by decide +kernel)⟩
def m_X2_answer : sw_M := (yX2_answer, cX2_answer, 8, some .long, 2)
theorem mk_X2_answer : sw_okV m_X2_answer := ⟨⟨sw_T_at 1196 (by decide +kernel), sw_T_at 132 (by decide +kernel), by decide, by decide +kernel, by decide +kernel⟩, sw_T_at 1194 (by decide +kernel), sw_T_at 1195 (by decide +kernel)⟩
def m_X2_questionOf : sw_M := (yX2_questionOf, cX2_questionOf, 8, some .int, 2)
theorem mk_X2_questionOf : sw_okV m_X2_questionOf := ⟨⟨sw_T_at 1201 (by decide +kernel), sw_T_at 132 (by decide +kernel), by decide, by decide +kernel, by decide +kernel⟩, sw_T_at 1199 (by decide +kernel), sw_T_at 1200 (by decide +kernel)⟩
def m_X3_readUpland : sw_M := (yX3_readUpland, cX3_readUpland, 5, some .boolean, 3)
theorem mk_X3_readUpland : sw_okV m_X3_readUpland := ⟨⟨sw_T_at 624 (by decide +kernel), sw_T_at 131 (by decide +kernel), by decide, by decide +kernel, by decide +kernel⟩, sw_T_at 622 (by decide +kernel), sw_T_at 623 (by decide +kernel)⟩
def m_X3_readQuestion : sw_M := (yX3_readQuestion, cX3_readQuestion, 6, some .int, 3)
theorem mk_X3_readQuestion : sw_okV m_X3_readQuestion := ⟨⟨sw_T_at 1192 (by decide +kernel), sw_T_at 131 (by decide +kernel), by decide, by decide +kernel, by decide +kernel⟩, sw_T_at 1190 (by decide +kernel), sw_T_at 1191 (by decide +kernel)⟩
def m_X3_statement : sw_M := (yX3_statement, cX3_statement, 1, some .boolean, 3)
theorem mk_X3_statement : sw_okV m_X3_statement := ⟨⟨sw_T_at 705 (by decide +kernel), sw_T_at 131 (by decide +kernel), by decide, by decide +kernel, by decide +kernel⟩, sw_T_at 704 (by decide +kernel), sw_T_at 3 (by decide +kernel)⟩
def m_X3_fieldStatement : sw_M := (yX3_fieldStatement, cX3_fieldStatement, 4, some .boolean, 3)
theorem mk_X3_fieldStatement : sw_okV m_X3_fieldStatement := ⟨⟨sw_T_at 709 (by decide +kernel), sw_T_at 131 (by decide +kernel), by decide, by decide +kernel, by decide +kernel⟩, sw_T_at 708 (by decide +kernel), sw_T_at 4 (by decide +kernel)⟩
def m_X3_gapStatement : sw_M := (yX3_gapStatement, cX3_gapStatement, 5, some .boolean, 3)
theorem mk_X3_gapStatement : sw_okV m_X3_gapStatement := ⟨⟨sw_T_at 739 (by decide +kernel), sw_T_at 131 (by decide +kernel), by decide, by decide +kernel, by decide +kernel⟩, sw_T_at 738 (by decide +kernel), sw_T_at 6 (by decide +kernel)⟩
def m_X3_shutStatement : sw_M := (yX3_shutStatement, cX3_shutStatement, 3, some .boolean, 3)
theorem mk_X3_shutStatement : sw_okV m_X3_shutStatement := ⟨⟨sw_T_at 747 (by decide +kernel), sw_T_at 131 (by decide +kernel), by decide, by decide +kernel, by decide +kernel⟩, sw_T_at 746 (by decide +kernel), sw_T_at 8 (by decide +kernel)⟩
def m_X3_sheepStatement : sw_M := (yX3_sheepStatement, cX3_sheepStatement, 5, some .boolean, 3)
theorem mk_X3_sheepStatement : sw_okV m_X3_sheepStatement := ⟨⟨sw_T_at 751 (by decide +kernel), sw_T_at 131 (by decide +kernel), by decide, by decide +kernel, by decide +kernel⟩, sw_T_at 750 (by decide +kernel), sw_T_at 9 (by decide +kernel)⟩
def m_X3_beginFormula : sw_M := (yX3_beginFormula, cX3_beginFormula, 2, some .boolean, 3)
theorem mk_X3_beginFormula : sw_okV m_X3_beginFormula := ⟨⟨sw_T_at 755 (by decide +kernel), sw_T_at 131 (by decide +kernel), by decide, by decide +kernel, by decide +kernel⟩, sw_T_at 754 (by decide +kernel), sw_T_at 10 (by decide +kernel)⟩
def m_X3_endFormula : sw_M := (yX3_endFormula, cX3_endFormula, 2, some .boolean, 3)
theorem mk_X3_endFormula : sw_okV m_X3_endFormula := ⟨⟨sw_T_at 779 (by decide +kernel), sw_T_at 131 (by decide +kernel), by decide, by decide +kernel, by decide +kernel⟩, sw_T_at 778 (by decide +kernel), sw_T_at 15 (by decide +kernel)⟩
def m_X3_stormStatement : sw_M := (yX3_stormStatement, cX3_stormStatement, 2, some .boolean, 3)
theorem mk_X3_stormStatement : sw_okV m_X3_stormStatement := ⟨⟨sw_T_at 798 (by decide +kernel), sw_T_at 131 (by decide +kernel), by decide, by decide +kernel, by decide +kernel⟩, sw_T_at 797 (by decide +kernel), sw_T_at 19 (by decide +kernel)⟩
def m_X3_newName : sw_M := (yX3_newName, cX3_newName, 3, some .int, 3)
theorem mk_X3_newName : sw_okV m_X3_newName := ⟨⟨sw_T_at 714 (by decide +kernel), sw_T_at 131 (by decide +kernel), by decide, by decide +kernel, by decide +kernel⟩, sw_T_at 713 (by decide +kernel), sw_T_at 5 (by decide +kernel)⟩
def m_X3_knownField : sw_M := (yX3_knownField, cX3_knownField, 5, some .int, 3)
theorem mk_X3_knownField : sw_okV m_X3_knownField := ⟨⟨sw_T_at 743 (by decide +kernel), sw_T_at 131 (by decide +kernel), by decide, by decide +kernel, by decide +kernel⟩, sw_T_at 742 (by decide +kernel), sw_T_at 7 (by decide +kernel)⟩
def m_X3_test : sw_M := (yX3_test, cX3_test, 3, some .boolean, 3)
theorem mk_X3_test : sw_okV m_X3_test := ⟨⟨sw_T_at 783 (by decide +kernel), sw_T_at 131 (by decide +kernel), by decide, by decide +kernel, by decide +kernel⟩, sw_T_at 782 (by decide +kernel), sw_T_at 16 (by decide +kernel)⟩
def m_X3_both : sw_M := (yX3_both, cX3_both, 3, some .boolean, 3)
theorem mk_X3_both : sw_okV m_X3_both := ⟨⟨sw_T_at 787 (by decide +kernel), sw_T_at 131 (by decide +kernel), by decide, by decide +kernel, by decide +kernel⟩, sw_T_at 786 (by decide +kernel), sw_T_at 17 (by decide +kernel)⟩
def m_X3_fact : sw_M := (yX3_fact, cX3_fact, 3, some .boolean, 3)
theorem mk_X3_fact : sw_okV m_X3_fact := ⟨⟨sw_T_at 791 (by decide +kernel), sw_T_at 131 (by decide +kernel), by decide, by decide +kernel, by decide +kernel⟩, sw_T_at 790 (by decide +kernel), sw_T_at 18 (by decide +kernel)⟩
def m_X3_signCode : sw_M := (yX3_signCode, cX3_signCode, 1, some .int, 3)
theorem mk_X3_signCode : sw_okS m_X3_signCode := ⟨⟨sw_T_at 794 (by decide +kernel), sw_T_at 131 (by decide +kernel), by decide, by decide +kernel, by decide +kernel⟩, sw_T_at 793 (by decide +kernel)⟩
def m_X3_opens : sw_M := (yX3_opens, cX3_opens, 2, some .boolean, 3)
theorem mk_X3_opens : sw_okV m_X3_opens := ⟨⟨sw_T_at 772 (by decide +kernel), sw_T_at 131 (by decide +kernel), by decide, by decide +kernel, by decide +kernel⟩, sw_T_at 771 (by decide +kernel), sw_T_at 14 (by decide +kernel)⟩
def m_X3_sum : sw_M := (yX3_sum, cX3_sum, 4, some .boolean, 3)
theorem mk_X3_sum : sw_okV m_X3_sum := ⟨⟨sw_T_at 759 (by decide +kernel), sw_T_at 131 (by decide +kernel), by decide, by decide +kernel, by decide +kernel⟩, sw_T_at 758 (by decide +kernel), sw_T_at 11 (by decide +kernel)⟩
def m_X3_product : sw_M := (yX3_product, cX3_product, 4, some .boolean, 3)
theorem mk_X3_product : sw_okV m_X3_product := ⟨⟨sw_T_at 763 (by decide +kernel), sw_T_at 131 (by decide +kernel), by decide, by decide +kernel, by decide +kernel⟩, sw_T_at 762 (by decide +kernel), sw_T_at 12 (by decide +kernel)⟩
def m_X3_part : sw_M := (yX3_part, cX3_part, 4, some .boolean, 3)
theorem mk_X3_part : sw_okV m_X3_part := ⟨⟨sw_T_at 767 (by decide +kernel), sw_T_at 131 (by decide +kernel), by decide, by decide +kernel, by decide +kernel⟩, sw_T_at 766 (by decide +kernel), sw_T_at 13 (by decide +kernel)⟩
def m_X3_variableOf : sw_M := (yX3_variableOf, cX3_variableOf, 2, some .int, 3)
theorem mk_X3_variableOf : sw_okS m_X3_variableOf := ⟨⟨sw_T_at 775 (by decide +kernel), sw_T_at 131 (by decide +kernel), by decide, by decide +kernel, by decide +kernel⟩, sw_T_at 774 (by decide +kernel)⟩
def m_X4_clear : sw_M := (yX4_clear, cX4_clear, 1, none, 4)
theorem mk_X4_clear : sw_okV m_X4_clear := ⟨⟨sw_T_at 809 (by decide +kernel), sw_T_at 136 (by decide +kernel), by decide, by decide +kernel, by decide +kernel⟩, sw_T_at 807 (by decide +kernel), sw_T_at 808 (by decide +kernel)⟩
def m_X4_remember : sw_M := (yX4_remember, cX4_remember, 2, none, 4)
theorem mk_X4_remember : sw_okV m_X4_remember := ⟨⟨sw_T_at 1120 (by decide +kernel), sw_T_at 136 (by decide +kernel), by decide, by decide +kernel, by decide +kernel⟩, sw_T_at 1118 (by decide +kernel), sw_T_at 1119 (by decide +kernel)⟩
def m_X4_restore : sw_M := (yX4_restore, cX4_restore, 2, none, 4)
theorem mk_X4_restore : sw_okV m_X4_restore := ⟨⟨sw_T_at 1180 (by decide +kernel), sw_T_at 136 (by decide +kernel), by decide, by decide +kernel, by decide +kernel⟩, sw_T_at 1178 (by decide +kernel), sw_T_at 1179 (by decide +kernel)⟩
def m_X5_write : sw_M := (yX5_write, cX5_write, 5, none, 5)
theorem mk_X5_write : sw_okV m_X5_write := ⟨⟨sw_T_at 1219 (by decide +kernel), sw_T_at 137 (by decide +kernel), by decide, by decide +kernel, by decide +kernel⟩, sw_T_at 1217 (by decide +kernel), sw_T_at 1218 (by decide +kernel)⟩
def m_X5_put : sw_M := (yX5_put, cX5_put, 4, none, 5)
theorem mk_X5_put : sw_okV m_X5_put := ⟨⟨sw_T_at 1223 (by decide +kernel), sw_T_at 137 (by decide +kernel), by decide, by decide +kernel, by decide +kernel⟩, sw_T_at 1221 (by decide +kernel), sw_T_at 1222 (by decide +kernel)⟩
def m_X5_checkOf : sw_M := (yX5_checkOf, cX5_checkOf, 4, some .int, 5)
theorem mk_X5_checkOf : sw_okS m_X5_checkOf := ⟨⟨sw_T_at 1226 (by decide +kernel), sw_T_at 137 (by decide +kernel), by decide, by decide +kernel, by decide +kernel⟩, sw_T_at 1225 (by decide +kernel)⟩
def m_X5_read : sw_M := (yX5_read, cX5_read, 8, some .boolean, 5)
theorem mk_X5_read : sw_okV m_X5_read := ⟨⟨sw_T_at 1238 (by decide +kernel), sw_T_at 137 (by decide +kernel), by decide, by decide +kernel, by decide +kernel⟩, sw_T_at 1236 (by decide +kernel), sw_T_at 1237 (by decide +kernel)⟩
def m_X5_take : sw_M := (yX5_take, cX5_take, 6, some .int, 5)
theorem mk_X5_take : sw_okV m_X5_take := ⟨⟨sw_T_at 1242 (by decide +kernel), sw_T_at 137 (by decide +kernel), by decide, by decide +kernel, by decide +kernel⟩, sw_T_at 1240 (by decide +kernel), sw_T_at 1241 (by decide +kernel)⟩
def m_X6_open : sw_M := (yX6_open, cX6_open, 3, none, 6)
theorem mk_X6_open : sw_okV m_X6_open := ⟨⟨sw_T_at 629 (by decide +kernel), sw_T_at 128 (by decide +kernel), by decide, by decide +kernel, by decide +kernel⟩, sw_T_at 627 (by decide +kernel), sw_T_at 628 (by decide +kernel)⟩
def m_X6_advance : sw_M := (yX6_advance, cX6_advance, 2, none, 6)
theorem mk_X6_advance : sw_okV m_X6_advance := ⟨⟨sw_T_at 636 (by decide +kernel), sw_T_at 128 (by decide +kernel), by decide, by decide +kernel, by decide +kernel⟩, sw_T_at 634 (by decide +kernel), sw_T_at 635 (by decide +kernel)⟩
def m_X6_isLetter : sw_M := (yX6_isLetter, cX6_isLetter, 2, some .boolean, 6)
theorem mk_X6_isLetter : sw_okV m_X6_isLetter := ⟨⟨sw_T_at 640 (by decide +kernel), sw_T_at 128 (by decide +kernel), by decide, by decide +kernel, by decide +kernel⟩, sw_T_at 638 (by decide +kernel), sw_T_at 639 (by decide +kernel)⟩
def m_X6_isDigit : sw_M := (yX6_isDigit, cX6_isDigit, 2, some .boolean, 6)
theorem mk_X6_isDigit : sw_okV m_X6_isDigit := ⟨⟨sw_T_at 697 (by decide +kernel), sw_T_at 128 (by decide +kernel), by decide, by decide +kernel, by decide +kernel⟩, sw_T_at 695 (by decide +kernel), sw_T_at 696 (by decide +kernel)⟩
def m_X6_wordKind : sw_M := (yX6_wordKind, cX6_wordKind, 6, some .int, 6)
theorem mk_X6_wordKind : sw_okV m_X6_wordKind := ⟨⟨sw_T_at 644 (by decide +kernel), sw_T_at 128 (by decide +kernel), by decide, by decide +kernel, by decide +kernel⟩, sw_T_at 642 (by decide +kernel), sw_T_at 643 (by decide +kernel)⟩
def m_X6_fail : sw_M := (yX6_fail, cX6_fail, 3, some .boolean, 6)
theorem mk_X6_fail : sw_okV m_X6_fail := ⟨⟨sw_T_at 701 (by decide +kernel), sw_T_at 128 (by decide +kernel), by decide, by decide +kernel, by decide +kernel⟩, sw_T_at 699 (by decide +kernel), sw_T_at 700 (by decide +kernel)⟩
def m_X6_expect : sw_M := (yX6_expect, cX6_expect, 2, some .boolean, 6)
theorem mk_X6_expect : sw_okV m_X6_expect := ⟨⟨sw_T_at 731 (by decide +kernel), sw_T_at 128 (by decide +kernel), by decide, by decide +kernel, by decide +kernel⟩, sw_T_at 729 (by decide +kernel), sw_T_at 730 (by decide +kernel)⟩
def m_X6_takeNumber : sw_M := (yX6_takeNumber, cX6_takeNumber, 5, some .int, 6)
theorem mk_X6_takeNumber : sw_okV m_X6_takeNumber := ⟨⟨sw_T_at 735 (by decide +kernel), sw_T_at 128 (by decide +kernel), by decide, by decide +kernel, by decide +kernel⟩, sw_T_at 733 (by decide +kernel), sw_T_at 734 (by decide +kernel)⟩
def m_X6_takeName : sw_M := (yX6_takeName, cX6_takeName, 3, some .int, 6)
theorem mk_X6_takeName : sw_okV m_X6_takeName := ⟨⟨sw_T_at 718 (by decide +kernel), sw_T_at 128 (by decide +kernel), by decide, by decide +kernel, by decide +kernel⟩, sw_T_at 716 (by decide +kernel), sw_T_at 717 (by decide +kernel)⟩
def m_X7_run : sw_M := (yX7_run, cX7_run, 5, some .int, 7)
theorem mk_X7_run : sw_okV m_X7_run := ⟨⟨sw_T_at 883 (by decide +kernel), sw_T_at 133 (by decide +kernel), by decide, by decide +kernel, by decide +kernel⟩, sw_T_at 881 (by decide +kernel), sw_T_at 882 (by decide +kernel)⟩
def m_X7_step : sw_M := (yX7_step, cX7_step, 4, none, 7)
theorem mk_X7_step : sw_okV m_X7_step := ⟨⟨sw_T_at 887 (by decide +kernel), sw_T_at 133 (by decide +kernel), by decide, by decide +kernel, by decide +kernel⟩, sw_T_at 885 (by decide +kernel), sw_T_at 886 (by decide +kernel)⟩
def m_X7_push : sw_M := (yX7_push, cX7_push, 3, none, 7)
theorem mk_X7_push : sw_okV m_X7_push := ⟨⟨sw_T_at 891 (by decide +kernel), sw_T_at 133 (by decide +kernel), by decide, by decide +kernel, by decide +kernel⟩, sw_T_at 889 (by decide +kernel), sw_T_at 890 (by decide +kernel)⟩
def m_X7_pop : sw_M := (yX7_pop, cX7_pop, 1, some .int, 7)
theorem mk_X7_pop : sw_okV m_X7_pop := ⟨⟨sw_T_at 899 (by decide +kernel), sw_T_at 133 (by decide +kernel), by decide, by decide +kernel, by decide +kernel⟩, sw_T_at 897 (by decide +kernel), sw_T_at 898 (by decide +kernel)⟩
def m_X8_begin : sw_M := (yX8_begin, cX8_begin, 3, none, 8)
theorem mk_X8_begin : sw_okV m_X8_begin := ⟨⟨sw_T_at 802 (by decide +kernel), sw_T_at 134 (by decide +kernel), by decide, by decide +kernel, by decide +kernel⟩, sw_T_at 800 (by decide +kernel), sw_T_at 801 (by decide +kernel)⟩
def m_X8_copyFrom : sw_M := (yX8_copyFrom, cX8_copyFrom, 2, none, 8)
theorem mk_X8_copyFrom : sw_okV m_X8_copyFrom := ⟨⟨sw_T_at 1124 (by decide +kernel), sw_T_at 134 (by decide +kernel), by decide, by decide +kernel, by decide +kernel⟩, sw_T_at 1122 (by decide +kernel), sw_T_at 1123 (by decide +kernel)⟩
def m_X8_copyOne : sw_M := (yX8_copyOne, cX8_copyOne, 3, none, 8)
theorem mk_X8_copyOne : sw_okV m_X8_copyOne := ⟨⟨sw_T_at 952 (by decide +kernel), sw_T_at 134 (by decide +kernel), by decide, by decide +kernel, by decide +kernel⟩, sw_T_at 950 (by decide +kernel), sw_T_at 951 (by decide +kernel)⟩
def m_X8_allMiles : sw_M := (yX8_allMiles, cX8_allMiles, 4, some .int, 8)
theorem mk_X8_allMiles : sw_okV m_X8_allMiles := ⟨⟨sw_T_at 827 (by decide +kernel), sw_T_at 134 (by decide +kernel), by decide, by decide +kernel, by decide +kernel⟩, sw_T_at 825 (by decide +kernel), sw_T_at 826 (by decide +kernel)⟩
def m_X8_keep : sw_M := (yX8_keep, cX8_keep, 4, none, 8)
theorem mk_X8_keep : sw_okV m_X8_keep := ⟨⟨sw_T_at 1157 (by decide +kernel), sw_T_at 134 (by decide +kernel), by decide, by decide +kernel, by decide +kernel⟩, sw_T_at 1155 (by decide +kernel), sw_T_at 1156 (by decide +kernel)⟩
def m_X8_keptPart : sw_M := (yX8_keptPart, cX8_keptPart, 5, some .int, 8)
theorem mk_X8_keptPart : sw_okV m_X8_keptPart := ⟨⟨sw_T_at 936 (by decide +kernel), sw_T_at 134 (by decide +kernel), by decide, by decide +kernel, by decide +kernel⟩, sw_T_at 934 (by decide +kernel), sw_T_at 935 (by decide +kernel)⟩
def m_X9_clear : sw_M := (yX9_clear, cX9_clear, 1, none, 9)
theorem mk_X9_clear : sw_okV m_X9_clear := ⟨⟨sw_T_at 219 (by decide +kernel), sw_T_at 130 (by decide +kernel), by decide, by decide +kernel, by decide +kernel⟩, sw_T_at 217 (by decide +kernel), sw_T_at 218 (by decide +kernel)⟩
def m_X9_setFormula : sw_M := (yX9_setFormula, cX9_setFormula, 4, none, 9)
theorem mk_X9_setFormula : sw_okV m_X9_setFormula := ⟨⟨sw_T_at 227 (by decide +kernel), sw_T_at 130 (by decide +kernel), by decide, by decide +kernel, by decide +kernel⟩, sw_T_at 225 (by decide +kernel), sw_T_at 226 (by decide +kernel)⟩
def m_X9_fieldNamed : sw_M := (yX9_fieldNamed, cX9_fieldNamed, 3, some .int, 9)
theorem mk_X9_fieldNamed : sw_okV m_X9_fieldNamed := ⟨⟨sw_T_at 723 (by decide +kernel), sw_T_at 130 (by decide +kernel), by decide, by decide +kernel, by decide +kernel⟩, sw_T_at 721 (by decide +kernel), sw_T_at 722 (by decide +kernel)⟩
def m_X9_sheepNamed : sw_M := (yX9_sheepNamed, cX9_sheepNamed, 3, some .int, 9)
theorem mk_X9_sheepNamed : sw_okV m_X9_sheepNamed := ⟨⟨sw_T_at 727 (by decide +kernel), sw_T_at 130 (by decide +kernel), by decide, by decide +kernel, by decide +kernel⟩, sw_T_at 725 (by decide +kernel), sw_T_at 726 (by decide +kernel)⟩
def m_X9_beyond : sw_M := (yX9_beyond, cX9_beyond, 3, some .int, 9)
theorem mk_X9_beyond : sw_okV m_X9_beyond := ⟨⟨sw_T_at 910 (by decide +kernel), sw_T_at 130 (by decide +kernel), by decide, by decide +kernel, by decide +kernel⟩, sw_T_at 908 (by decide +kernel), sw_T_at 909 (by decide +kernel)⟩
def m_X10_feed : sw_M := (yX10_feed, cX10_feed, 6, some .int, 10)
theorem mk_X10_feed : sw_okV m_X10_feed := ⟨⟨sw_T_at 600 (by decide +kernel), sw_T_at 127 (by decide +kernel), by decide, by decide +kernel, by decide +kernel⟩, sw_T_at 598 (by decide +kernel), sw_T_at 599 (by decide +kernel)⟩
def m_X10_end : sw_M := (yX10_end, cX10_end, 2, some .boolean, 10)
theorem mk_X10_end : sw_okV m_X10_end := ⟨⟨sw_T_at 612 (by decide +kernel), sw_T_at 127 (by decide +kernel), by decide, by decide +kernel, by decide +kernel⟩, sw_T_at 610 (by decide +kernel), sw_T_at 611 (by decide +kernel)⟩
def m_X10_upland : sw_M := (yX10_upland, cX10_upland, 3, some .int, 10)
theorem mk_X10_upland : sw_okV m_X10_upland := ⟨⟨sw_T_at 616 (by decide +kernel), sw_T_at 127 (by decide +kernel), by decide, by decide +kernel, by decide +kernel⟩, sw_T_at 614 (by decide +kernel), sw_T_at 615 (by decide +kernel)⟩
def m_X10_fault : sw_M := (yX10_fault, cX10_fault, 2, some .int, 10)
theorem mk_X10_fault : sw_okV m_X10_fault := ⟨⟨sw_T_at 813 (by decide +kernel), sw_T_at 127 (by decide +kernel), by decide, by decide +kernel, by decide +kernel⟩, sw_T_at 811 (by decide +kernel), sw_T_at 812 (by decide +kernel)⟩
def m_X10_has : sw_M := (yX10_has, cX10_has, 2, some .int, 10)
theorem mk_X10_has : sw_okV m_X10_has := ⟨⟨sw_T_at 817 (by decide +kernel), sw_T_at 127 (by decide +kernel), by decide, by decide +kernel, by decide +kernel⟩, sw_T_at 815 (by decide +kernel), sw_T_at 816 (by decide +kernel)⟩
def m_X10_letter : sw_M := (yX10_letter, cX10_letter, 5, some .int, 10)
theorem mk_X10_letter : sw_okV m_X10_letter := ⟨⟨sw_T_at 831 (by decide +kernel), sw_T_at 127 (by decide +kernel), by decide, by decide +kernel, by decide +kernel⟩, sw_T_at 829 (by decide +kernel), sw_T_at 830 (by decide +kernel)⟩
def m_X10_lure : sw_M := (yX10_lure, cX10_lure, 2, some .int, 10)
theorem mk_X10_lure : sw_okV m_X10_lure := ⟨⟨sw_T_at 843 (by decide +kernel), sw_T_at 127 (by decide +kernel), by decide, by decide +kernel, by decide +kernel⟩, sw_T_at 841 (by decide +kernel), sw_T_at 842 (by decide +kernel)⟩
def m_X10_gap : sw_M := (yX10_gap, cX10_gap, 3, some .int, 10)
theorem mk_X10_gap : sw_okV m_X10_gap := ⟨⟨sw_T_at 847 (by decide +kernel), sw_T_at 127 (by decide +kernel), by decide, by decide +kernel, by decide +kernel⟩, sw_T_at 845 (by decide +kernel), sw_T_at 846 (by decide +kernel)⟩
def m_X10_sheep : sw_M := (yX10_sheep, cX10_sheep, 3, some .int, 10)
theorem mk_X10_sheep : sw_okV m_X10_sheep := ⟨⟨sw_T_at 855 (by decide +kernel), sw_T_at 127 (by decide +kernel), by decide, by decide +kernel, by decide +kernel⟩, sw_T_at 853 (by decide +kernel), sw_T_at 854 (by decide +kernel)⟩
def m_X10_seen : sw_M := (yX10_seen, cX10_seen, 3, some .int, 10)
theorem mk_X10_seen : sw_okV m_X10_seen := ⟨⟨sw_T_at 859 (by decide +kernel), sw_T_at 127 (by decide +kernel), by decide, by decide +kernel, by decide +kernel⟩, sw_T_at 857 (by decide +kernel), sw_T_at 858 (by decide +kernel)⟩
def m_X10_strays : sw_M := (yX10_strays, cX10_strays, 2, some .int, 10)
theorem mk_X10_strays : sw_okV m_X10_strays := ⟨⟨sw_T_at 863 (by decide +kernel), sw_T_at 127 (by decide +kernel), by decide, by decide +kernel, by decide +kernel⟩, sw_T_at 861 (by decide +kernel), sw_T_at 862 (by decide +kernel)⟩
def m_X10_brings : sw_M := (yX10_brings, cX10_brings, 2, some .int, 10)
theorem mk_X10_brings : sw_okV m_X10_brings := ⟨⟨sw_T_at 922 (by decide +kernel), sw_T_at 127 (by decide +kernel), by decide, by decide +kernel, by decide +kernel⟩, sw_T_at 920 (by decide +kernel), sw_T_at 921 (by decide +kernel)⟩
def m_X10_kept : sw_M := (yX10_kept, cX10_kept, 3, some .int, 10)
theorem mk_X10_kept : sw_okV m_X10_kept := ⟨⟨sw_T_at 932 (by decide +kernel), sw_T_at 127 (by decide +kernel), by decide, by decide +kernel, by decide +kernel⟩, sw_T_at 930 (by decide +kernel), sw_T_at 931 (by decide +kernel)⟩
def m_X10_later : sw_M := (yX10_later, cX10_later, 4, some .int, 10)
theorem mk_X10_later : sw_okV m_X10_later := ⟨⟨sw_T_at 940 (by decide +kernel), sw_T_at 127 (by decide +kernel), by decide, by decide +kernel, by decide +kernel⟩, sw_T_at 938 (by decide +kernel), sw_T_at 939 (by decide +kernel)⟩
def m_X10_home : sw_M := (yX10_home, cX10_home, 2, some .int, 10)
theorem mk_X10_home : sw_okV m_X10_home := ⟨⟨sw_T_at 967 (by decide +kernel), sw_T_at 127 (by decide +kernel), by decide, by decide +kernel, by decide +kernel⟩, sw_T_at 965 (by decide +kernel), sw_T_at 966 (by decide +kernel)⟩
def m_X10_gaps : sw_M := (yX10_gaps, cX10_gaps, 4, some .int, 10)
theorem mk_X10_gaps : sw_okV m_X10_gaps := ⟨⟨sw_T_at 980 (by decide +kernel), sw_T_at 127 (by decide +kernel), by decide, by decide +kernel, by decide +kernel⟩, sw_T_at 978 (by decide +kernel), sw_T_at 979 (by decide +kernel)⟩
def m_X10_rumour : sw_M := (yX10_rumour, cX10_rumour, 3, some .int, 10)
theorem mk_X10_rumour : sw_okV m_X10_rumour := ⟨⟨sw_T_at 1005 (by decide +kernel), sw_T_at 127 (by decide +kernel), by decide, by decide +kernel, by decide +kernel⟩, sw_T_at 1003 (by decide +kernel), sw_T_at 1004 (by decide +kernel)⟩
def m_X10_way : sw_M := (yX10_way, cX10_way, 3, some .int, 10)
theorem mk_X10_way : sw_okV m_X10_way := ⟨⟨sw_T_at 1013 (by decide +kernel), sw_T_at 127 (by decide +kernel), by decide, by decide +kernel, by decide +kernel⟩, sw_T_at 1011 (by decide +kernel), sw_T_at 1012 (by decide +kernel)⟩
def m_X10_waits : sw_M := (yX10_waits, cX10_waits, 4, some .int, 10)
theorem mk_X10_waits : sw_okV m_X10_waits := ⟨⟨sw_T_at 1026 (by decide +kernel), sw_T_at 127 (by decide +kernel), by decide, by decide +kernel, by decide +kernel⟩, sw_T_at 1024 (by decide +kernel), sw_T_at 1025 (by decide +kernel)⟩
def m_X10_coat : sw_M := (yX10_coat, cX10_coat, 2, some .int, 10)
theorem mk_X10_coat : sw_okV m_X10_coat := ⟨⟨sw_T_at 1035 (by decide +kernel), sw_T_at 127 (by decide +kernel), by decide, by decide +kernel, by decide +kernel⟩, sw_T_at 1033 (by decide +kernel), sw_T_at 1034 (by decide +kernel)⟩
def m_X10_watch : sw_M := (yX10_watch, cX10_watch, 2, some .int, 10)
theorem mk_X10_watch : sw_okV m_X10_watch := ⟨⟨sw_T_at 1047 (by decide +kernel), sw_T_at 127 (by decide +kernel), by decide, by decide +kernel, by decide +kernel⟩, sw_T_at 1045 (by decide +kernel), sw_T_at 1046 (by decide +kernel)⟩
def m_X10_ways : sw_M := (yX10_ways, cX10_ways, 4, some .long, 10)
theorem mk_X10_ways : sw_okV m_X10_ways := ⟨⟨sw_T_at 1063 (by decide +kernel), sw_T_at 127 (by decide +kernel), by decide, by decide +kernel, by decide +kernel⟩, sw_T_at 1061 (by decide +kernel), sw_T_at 1062 (by decide +kernel)⟩
def m_X10_feel : sw_M := (yX10_feel, cX10_feel, 2, some .int, 10)
theorem mk_X10_feel : sw_okV m_X10_feel := ⟨⟨sw_T_at 1079 (by decide +kernel), sw_T_at 127 (by decide +kernel), by decide, by decide +kernel, by decide +kernel⟩, sw_T_at 1077 (by decide +kernel), sw_T_at 1078 (by decide +kernel)⟩
def m_X10_curious : sw_M := (yX10_curious, cX10_curious, 2, some .int, 10)
theorem mk_X10_curious : sw_okV m_X10_curious := ⟨⟨sw_T_at 1087 (by decide +kernel), sw_T_at 127 (by decide +kernel), by decide, by decide +kernel, by decide +kernel⟩, sw_T_at 1085 (by decide +kernel), sw_T_at 1086 (by decide +kernel)⟩
def m_X10_tells : sw_M := (yX10_tells, cX10_tells, 3, some .int, 10)
theorem mk_X10_tells : sw_okV m_X10_tells := ⟨⟨sw_T_at 1103 (by decide +kernel), sw_T_at 127 (by decide +kernel), by decide, by decide +kernel, by decide +kernel⟩, sw_T_at 1101 (by decide +kernel), sw_T_at 1102 (by decide +kernel)⟩
def m_X10_shear : sw_M := (yX10_shear, cX10_shear, 3, some .int, 10)
theorem mk_X10_shear : sw_okV m_X10_shear := ⟨⟨sw_T_at 1116 (by decide +kernel), sw_T_at 127 (by decide +kernel), by decide, by decide +kernel, by decide +kernel⟩, sw_T_at 1114 (by decide +kernel), sw_T_at 1115 (by decide +kernel)⟩
def m_X10_lead : sw_M := (yX10_lead, cX10_lead, 3, some .boolean, 10)
theorem mk_X10_lead : sw_okV m_X10_lead := ⟨⟨sw_T_at 1131 (by decide +kernel), sw_T_at 127 (by decide +kernel), by decide, by decide +kernel, by decide +kernel⟩, sw_T_at 1129 (by decide +kernel), sw_T_at 1130 (by decide +kernel)⟩
def m_X10_swing : sw_M := (yX10_swing, cX10_swing, 3, some .boolean, 10)
theorem mk_X10_swing : sw_okV m_X10_swing := ⟨⟨sw_T_at 1140 (by decide +kernel), sw_T_at 127 (by decide +kernel), by decide, by decide +kernel, by decide +kernel⟩, sw_T_at 1138 (by decide +kernel), sw_T_at 1139 (by decide +kernel)⟩
def m_X10_tell : sw_M := (yX10_tell, cX10_tell, 4, some .boolean, 10)
theorem mk_X10_tell : sw_okV m_X10_tell := ⟨⟨sw_T_at 1144 (by decide +kernel), sw_T_at 127 (by decide +kernel), by decide, by decide +kernel, by decide +kernel⟩, sw_T_at 1142 (by decide +kernel), sw_T_at 1143 (by decide +kernel)⟩
def m_X10_days : sw_M := (yX10_days, cX10_days, 4, some .int, 10)
theorem mk_X10_days : sw_okV m_X10_days := ⟨⟨sw_T_at 1148 (by decide +kernel), sw_T_at 127 (by decide +kernel), by decide, by decide +kernel, by decide +kernel⟩, sw_T_at 1146 (by decide +kernel), sw_T_at 1147 (by decide +kernel)⟩
def m_X10_chance : sw_M := (yX10_chance, cX10_chance, 4, some .int, 10)
theorem mk_X10_chance : sw_okV m_X10_chance := ⟨⟨sw_T_at 1161 (by decide +kernel), sw_T_at 127 (by decide +kernel), by decide, by decide +kernel, by decide +kernel⟩, sw_T_at 1159 (by decide +kernel), sw_T_at 1160 (by decide +kernel)⟩
def m_X10_undo : sw_M := (yX10_undo, cX10_undo, 1, some .boolean, 10)
theorem mk_X10_undo : sw_okV m_X10_undo := ⟨⟨sw_T_at 1176 (by decide +kernel), sw_T_at 127 (by decide +kernel), by decide, by decide +kernel, by decide +kernel⟩, sw_T_at 1174 (by decide +kernel), sw_T_at 1175 (by decide +kernel)⟩
def m_X10_seed : sw_M := (yX10_seed, cX10_seed, 2, some .boolean, 10)
theorem mk_X10_seed : sw_okV m_X10_seed := ⟨⟨sw_T_at 1184 (by decide +kernel), sw_T_at 127 (by decide +kernel), by decide, by decide +kernel, by decide +kernel⟩, sw_T_at 1182 (by decide +kernel), sw_T_at 1183 (by decide +kernel)⟩
def m_X10_ask : sw_M := (yX10_ask, cX10_ask, 3, some .long, 10)
theorem mk_X10_ask : sw_okV m_X10_ask := ⟨⟨sw_T_at 1188 (by decide +kernel), sw_T_at 127 (by decide +kernel), by decide, by decide +kernel, by decide +kernel⟩, sw_T_at 1186 (by decide +kernel), sw_T_at 1187 (by decide +kernel)⟩
def m_X10_image : sw_M := (yX10_image, cX10_image, 1, some .int, 10)
theorem mk_X10_image : sw_okV m_X10_image := ⟨⟨sw_T_at 1215 (by decide +kernel), sw_T_at 127 (by decide +kernel), by decide, by decide +kernel, by decide +kernel⟩, sw_T_at 1213 (by decide +kernel), sw_T_at 1214 (by decide +kernel)⟩
def m_X10_octet : sw_M := (yX10_octet, cX10_octet, 2, some .int, 10)
theorem mk_X10_octet : sw_okV m_X10_octet := ⟨⟨sw_T_at 1230 (by decide +kernel), sw_T_at 127 (by decide +kernel), by decide, by decide +kernel, by decide +kernel⟩, sw_T_at 1228 (by decide +kernel), sw_T_at 1229 (by decide +kernel)⟩
def m_X10_on : sw_M := (yX10_on, cX10_on, 2, some .boolean, 10)
theorem mk_X10_on : sw_okV m_X10_on := ⟨⟨sw_T_at 1234 (by decide +kernel), sw_T_at 127 (by decide +kernel), by decide, by decide +kernel, by decide +kernel⟩, sw_T_at 1232 (by decide +kernel), sw_T_at 1233 (by decide +kernel)⟩
def m_X10_status : sw_M := (yX10_status, cX10_status, 2, some .int, 10)
theorem mk_X10_status : sw_okV m_X10_status := ⟨⟨sw_T_at 1248 (by decide +kernel), sw_T_at 127 (by decide +kernel), by decide, by decide +kernel, by decide +kernel⟩, sw_T_at 1246 (by decide +kernel), sw_T_at 1247 (by decide +kernel)⟩
def m_X10_refuse : sw_M := (yX10_refuse, cX10_refuse, 2, some .int, 10)
theorem mk_X10_refuse : sw_okV m_X10_refuse := ⟨⟨sw_T_at 604 (by decide +kernel), sw_T_at 127 (by decide +kernel), by decide, by decide +kernel, by decide +kernel⟩, sw_T_at 603 (by decide +kernel), sw_T_at 0 (by decide +kernel)⟩
def m_X10_putBytes : sw_M := (yX10_putBytes, cX10_putBytes, 3, none, 10)
theorem mk_X10_putBytes : sw_okV m_X10_putBytes := ⟨⟨sw_T_at 608 (by decide +kernel), sw_T_at 127 (by decide +kernel), by decide, by decide +kernel, by decide +kernel⟩, sw_T_at 607 (by decide +kernel), sw_T_at 1 (by decide +kernel)⟩
def m_X10_takeTape : sw_M := (yX10_takeTape, cX10_takeTape, 2, some .int, 10)
theorem mk_X10_takeTape : sw_okV m_X10_takeTape := ⟨⟨sw_T_at 620 (by decide +kernel), sw_T_at 127 (by decide +kernel), by decide, by decide +kernel, by decide +kernel⟩, sw_T_at 619 (by decide +kernel), sw_T_at 2 (by decide +kernel)⟩
def m_X10_isField : sw_M := (yX10_isField, cX10_isField, 2, some .boolean, 10)
theorem mk_X10_isField : sw_okV m_X10_isField := ⟨⟨sw_T_at 835 (by decide +kernel), sw_T_at 127 (by decide +kernel), by decide, by decide +kernel, by decide +kernel⟩, sw_T_at 834 (by decide +kernel), sw_T_at 20 (by decide +kernel)⟩
def m_X10_isGap : sw_M := (yX10_isGap, cX10_isGap, 2, some .boolean, 10)
theorem mk_X10_isGap : sw_okV m_X10_isGap := ⟨⟨sw_T_at 851 (by decide +kernel), sw_T_at 127 (by decide +kernel), by decide, by decide +kernel, by decide +kernel⟩, sw_T_at 850 (by decide +kernel), sw_T_at 22 (by decide +kernel)⟩
def m_X10_isSheep : sw_M := (yX10_isSheep, cX10_isSheep, 2, some .boolean, 10)
theorem mk_X10_isSheep : sw_okV m_X10_isSheep := ⟨⟨sw_T_at 839 (by decide +kernel), sw_T_at 127 (by decide +kernel), by decide, by decide +kernel, by decide +kernel⟩, sw_T_at 838 (by decide +kernel), sw_T_at 21 (by decide +kernel)⟩
def m_X10_canCome : sw_M := (yX10_canCome, cX10_canCome, 3, some .boolean, 10)
theorem mk_X10_canCome : sw_okV m_X10_canCome := ⟨⟨sw_T_at 944 (by decide +kernel), sw_T_at 127 (by decide +kernel), by decide, by decide +kernel, by decide +kernel⟩, sw_T_at 943 (by decide +kernel), sw_T_at 23 (by decide +kernel)⟩
def m_X10_stormComes : sw_M := (yX10_stormComes, cX10_stormComes, 1, some .boolean, 10)
theorem mk_X10_stormComes : sw_okV m_X10_stormComes := ⟨⟨sw_T_at 1165 (by decide +kernel), sw_T_at 127 (by decide +kernel), by decide, by decide +kernel, by decide +kernel⟩, sw_T_at 1164 (by decide +kernel), sw_T_at 26 (by decide +kernel)⟩
def m_X10_draw : sw_M := (yX10_draw, cX10_draw, 2, some .int, 10)
theorem mk_X10_draw : sw_okV m_X10_draw := ⟨⟨sw_T_at 1169 (by decide +kernel), sw_T_at 127 (by decide +kernel), by decide, by decide +kernel, by decide +kernel⟩, sw_T_at 1168 (by decide +kernel), sw_T_at 27 (by decide +kernel)⟩
def m_X11_isIn : sw_M := (yX11_isIn, cX11_isIn, 6, some .boolean, 11)
theorem mk_X11_isIn : sw_okS m_X11_isIn := ⟨⟨sw_T_at 1645 (by decide +kernel), sw_T_at 138 (by decide +kernel), by decide, by decide +kernel, by decide +kernel⟩, sw_T_at 1644 (by decide +kernel)⟩
def m_X11_feed : sw_M := (yX11_feed, cX11_feed, 8, some .int, 11)
theorem mk_X11_feed : sw_okV m_X11_feed := ⟨⟨sw_T_at 1578 (by decide +kernel), sw_T_at 138 (by decide +kernel), by decide, by decide +kernel, by decide +kernel⟩, sw_T_at 1576 (by decide +kernel), sw_T_at 1577 (by decide +kernel)⟩
def m_X11_end : sw_M := (yX11_end, cX11_end, 2, some .boolean, 11)
theorem mk_X11_end : sw_okV m_X11_end := ⟨⟨sw_T_at 1582 (by decide +kernel), sw_T_at 138 (by decide +kernel), by decide, by decide +kernel, by decide +kernel⟩, sw_T_at 1580 (by decide +kernel), sw_T_at 1581 (by decide +kernel)⟩
def m_X11_fail : sw_M := (yX11_fail, cX11_fail, 3, none, 11)
theorem mk_X11_fail : sw_okV m_X11_fail := ⟨⟨sw_T_at 1598 (by decide +kernel), sw_T_at 138 (by decide +kernel), by decide, by decide +kernel, by decide +kernel⟩, sw_T_at 1597 (by decide +kernel), sw_T_at 30 (by decide +kernel)⟩
def m_X11_isLetter : sw_M := (yX11_isLetter, cX11_isLetter, 1, some .boolean, 11)
theorem mk_X11_isLetter : sw_okS m_X11_isLetter := ⟨⟨sw_T_at 1609 (by decide +kernel), sw_T_at 138 (by decide +kernel), by decide, by decide +kernel, by decide +kernel⟩, sw_T_at 1608 (by decide +kernel)⟩
def m_X11_isDigit : sw_M := (yX11_isDigit, cX11_isDigit, 1, some .boolean, 11)
theorem mk_X11_isDigit : sw_okS m_X11_isDigit := ⟨⟨sw_T_at 1642 (by decide +kernel), sw_T_at 138 (by decide +kernel), by decide, by decide +kernel, by decide +kernel⟩, sw_T_at 1641 (by decide +kernel)⟩
def m_X11_look : sw_M := (yX11_look, cX11_look, 1, some .int, 11)
theorem mk_X11_look : sw_okV m_X11_look := ⟨⟨sw_T_at 1590 (by decide +kernel), sw_T_at 138 (by decide +kernel), by decide, by decide +kernel, by decide +kernel⟩, sw_T_at 1589 (by decide +kernel), sw_T_at 28 (by decide +kernel)⟩
def m_X11_isHere : sw_M := (yX11_isHere, cX11_isHere, 4, some .boolean, 11)
theorem mk_X11_isHere : sw_okV m_X11_isHere := ⟨⟨sw_T_at 1606 (by decide +kernel), sw_T_at 138 (by decide +kernel), by decide, by decide +kernel, by decide +kernel⟩, sw_T_at 1605 (by decide +kernel), sw_T_at 32 (by decide +kernel)⟩
def m_X11_takes : sw_M := (yX11_takes, cX11_takes, 2, some .boolean, 11)
theorem mk_X11_takes : sw_okV m_X11_takes := ⟨⟨sw_T_at 1602 (by decide +kernel), sw_T_at 138 (by decide +kernel), by decide, by decide +kernel, by decide +kernel⟩, sw_T_at 1601 (by decide +kernel), sw_T_at 31 (by decide +kernel)⟩
def m_X11_asks : sw_M := (yX11_asks, cX11_asks, 2, none, 11)
theorem mk_X11_asks : sw_okV m_X11_asks := ⟨⟨sw_T_at 1635 (by decide +kernel), sw_T_at 138 (by decide +kernel), by decide, by decide +kernel, by decide +kernel⟩, sw_T_at 1634 (by decide +kernel), sw_T_at 38 (by decide +kernel)⟩
def m_X11_takesSign : sw_M := (yX11_takesSign, cX11_takesSign, 2, some .boolean, 11)
theorem mk_X11_takesSign : sw_okV m_X11_takesSign := ⟨⟨sw_T_at 1711 (by decide +kernel), sw_T_at 138 (by decide +kernel), by decide, by decide +kernel, by decide +kernel⟩, sw_T_at 1710 (by decide +kernel), sw_T_at 55 (by decide +kernel)⟩
def m_X11_asksSign : sw_M := (yX11_asksSign, cX11_asksSign, 2, none, 11)
theorem mk_X11_asksSign : sw_okV m_X11_asksSign := ⟨⟨sw_T_at 1707 (by decide +kernel), sw_T_at 138 (by decide +kernel), by decide, by decide +kernel, by decide +kernel⟩, sw_T_at 1706 (by decide +kernel), sw_T_at 54 (by decide +kernel)⟩
def m_X11_number : sw_M := (yX11_number, cX11_number, 5, some .int, 11)
theorem mk_X11_number : sw_okV m_X11_number := ⟨⟨sw_T_at 1639 (by decide +kernel), sw_T_at 138 (by decide +kernel), by decide, by decide +kernel, by decide +kernel⟩, sw_T_at 1638 (by decide +kernel), sw_T_at 39 (by decide +kernel)⟩
def m_X11_isOwnHere : sw_M := (yX11_isOwnHere, cX11_isOwnHere, 2, some .boolean, 11)
theorem mk_X11_isOwnHere : sw_okV m_X11_isOwnHere := ⟨⟨sw_T_at 1629 (by decide +kernel), sw_T_at 138 (by decide +kernel), by decide, by decide +kernel, by decide +kernel⟩, sw_T_at 1628 (by decide +kernel), sw_T_at 37 (by decide +kernel)⟩
def m_X11_name : sw_M := (yX11_name, cX11_name, 3, some .long, 11)
theorem mk_X11_name : sw_okV m_X11_name := ⟨⟨sw_T_at 1625 (by decide +kernel), sw_T_at 138 (by decide +kernel), by decide, by decide +kernel, by decide +kernel⟩, sw_T_at 1624 (by decide +kernel), sw_T_at 36 (by decide +kernel)⟩
def m_X11_isAllowed : sw_M := (yX11_isAllowed, cX11_isAllowed, 2, some .boolean, 11)
theorem mk_X11_isAllowed : sw_okV m_X11_isAllowed := ⟨⟨sw_T_at 1701 (by decide +kernel), sw_T_at 138 (by decide +kernel), by decide, by decide +kernel, by decide +kernel⟩, sw_T_at 1700 (by decide +kernel), sw_T_at 53 (by decide +kernel)⟩
def m_X11_isFull : sw_M := (yX11_isFull, cX11_isFull, 4, some .boolean, 11)
theorem mk_X11_isFull : sw_okV m_X11_isFull := ⟨⟨sw_T_at 1617 (by decide +kernel), sw_T_at 138 (by decide +kernel), by decide, by decide +kernel, by decide +kernel⟩, sw_T_at 1616 (by decide +kernel), sw_T_at 34 (by decide +kernel)⟩
def m_X11_newName : sw_M := (yX11_newName, cX11_newName, 5, some .long, 11)
theorem mk_X11_newName : sw_okV m_X11_newName := ⟨⟨sw_T_at 1621 (by decide +kernel), sw_T_at 138 (by decide +kernel), by decide, by decide +kernel, by decide +kernel⟩, sw_T_at 1620 (by decide +kernel), sw_T_at 35 (by decide +kernel)⟩
def m_X11_fieldNamed : sw_M := (yX11_fieldNamed, cX11_fieldNamed, 5, some .int, 11)
theorem mk_X11_fieldNamed : sw_okV m_X11_fieldNamed := ⟨⟨sw_T_at 1653 (by decide +kernel), sw_T_at 138 (by decide +kernel), by decide, by decide +kernel, by decide +kernel⟩, sw_T_at 1652 (by decide +kernel), sw_T_at 41 (by decide +kernel)⟩
def m_X11_fieldTold : sw_M := (yX11_fieldTold, cX11_fieldTold, 5, none, 11)
theorem mk_X11_fieldTold : sw_okV m_X11_fieldTold := ⟨⟨sw_T_at 1613 (by decide +kernel), sw_T_at 138 (by decide +kernel), by decide, by decide +kernel, by decide +kernel⟩, sw_T_at 1612 (by decide +kernel), sw_T_at 33 (by decide +kernel)⟩
def m_X11_gapTold : sw_M := (yX11_gapTold, cX11_gapTold, 6, none, 11)
theorem mk_X11_gapTold : sw_okV m_X11_gapTold := ⟨⟨sw_T_at 1649 (by decide +kernel), sw_T_at 138 (by decide +kernel), by decide, by decide +kernel, by decide +kernel⟩, sw_T_at 1648 (by decide +kernel), sw_T_at 40 (by decide +kernel)⟩
def m_X11_shutTold : sw_M := (yX11_shutTold, cX11_shutTold, 2, none, 11)
theorem mk_X11_shutTold : sw_okV m_X11_shutTold := ⟨⟨sw_T_at 1657 (by decide +kernel), sw_T_at 138 (by decide +kernel), by decide, by decide +kernel, by decide +kernel⟩, sw_T_at 1656 (by decide +kernel), sw_T_at 42 (by decide +kernel)⟩
def m_X11_sheepTold : sw_M := (yX11_sheepTold, cX11_sheepTold, 7, none, 11)
theorem mk_X11_sheepTold : sw_okV m_X11_sheepTold := ⟨⟨sw_T_at 1661 (by decide +kernel), sw_T_at 138 (by decide +kernel), by decide, by decide +kernel, by decide +kernel⟩, sw_T_at 1660 (by decide +kernel), sw_T_at 43 (by decide +kernel)⟩
def m_X11_codesTold : sw_M := (yX11_codesTold, cX11_codesTold, 4, none, 11)
theorem mk_X11_codesTold : sw_okV m_X11_codesTold := ⟨⟨sw_T_at 1665 (by decide +kernel), sw_T_at 138 (by decide +kernel), by decide, by decide +kernel, by decide +kernel⟩, sw_T_at 1664 (by decide +kernel), sw_T_at 44 (by decide +kernel)⟩
def m_X11_statementTold : sw_M := (yX11_statementTold, cX11_statementTold, 2, none, 11)
theorem mk_X11_statementTold : sw_okV m_X11_statementTold := ⟨⟨sw_T_at 1594 (by decide +kernel), sw_T_at 138 (by decide +kernel), by decide, by decide +kernel, by decide +kernel⟩, sw_T_at 1593 (by decide +kernel), sw_T_at 29 (by decide +kernel)⟩
def m_X11_upland : sw_M := (yX11_upland, cX11_upland, 2, some .int, 11)
theorem mk_X11_upland : sw_okV m_X11_upland := ⟨⟨sw_T_at 1586 (by decide +kernel), sw_T_at 138 (by decide +kernel), by decide, by decide +kernel, by decide +kernel⟩, sw_T_at 1584 (by decide +kernel), sw_T_at 1585 (by decide +kernel)⟩
def m_X11_stands : sw_M := (yX11_stands, cX11_stands, 2, none, 11)
theorem mk_X11_stands : sw_okV m_X11_stands := ⟨⟨sw_T_at 1758 (by decide +kernel), sw_T_at 138 (by decide +kernel), by decide, by decide +kernel, by decide +kernel⟩, sw_T_at 1757 (by decide +kernel), sw_T_at 66 (by decide +kernel)⟩
def m_X11_fault : sw_M := (yX11_fault, cX11_fault, 2, some .int, 11)
theorem mk_X11_fault : sw_okV m_X11_fault := ⟨⟨sw_T_at 1762 (by decide +kernel), sw_T_at 138 (by decide +kernel), by decide, by decide +kernel, by decide +kernel⟩, sw_T_at 1760 (by decide +kernel), sw_T_at 1761 (by decide +kernel)⟩
def m_X11_fieldMany : sw_M := (yX11_fieldMany, cX11_fieldMany, 1, some .int, 11)
theorem mk_X11_fieldMany : sw_okV m_X11_fieldMany := ⟨⟨sw_T_at 1770 (by decide +kernel), sw_T_at 138 (by decide +kernel), by decide, by decide +kernel, by decide +kernel⟩, sw_T_at 1769 (by decide +kernel), sw_T_at 67 (by decide +kernel)⟩
def m_X11_sheepMany : sw_M := (yX11_sheepMany, cX11_sheepMany, 1, some .int, 11)
theorem mk_X11_sheepMany : sw_okV m_X11_sheepMany := ⟨⟨sw_T_at 1778 (by decide +kernel), sw_T_at 138 (by decide +kernel), by decide, by decide +kernel, by decide +kernel⟩, sw_T_at 1777 (by decide +kernel), sw_T_at 69 (by decide +kernel)⟩
def m_X11_gapMany : sw_M := (yX11_gapMany, cX11_gapMany, 1, some .int, 11)
theorem mk_X11_gapMany : sw_okV m_X11_gapMany := ⟨⟨sw_T_at 1774 (by decide +kernel), sw_T_at 138 (by decide +kernel), by decide, by decide +kernel, by decide +kernel⟩, sw_T_at 1773 (by decide +kernel), sw_T_at 68 (by decide +kernel)⟩
def m_X11_isField : sw_M := (yX11_isField, cX11_isField, 3, some .boolean, 11)
theorem mk_X11_isField : sw_okV m_X11_isField := ⟨⟨sw_T_at 1807 (by decide +kernel), sw_T_at 138 (by decide +kernel), by decide, by decide +kernel, by decide +kernel⟩, sw_T_at 1806 (by decide +kernel), sw_T_at 74 (by decide +kernel)⟩
def m_X11_isSheep : sw_M := (yX11_isSheep, cX11_isSheep, 2, some .boolean, 11)
theorem mk_X11_isSheep : sw_okV m_X11_isSheep := ⟨⟨sw_T_at 1824 (by decide +kernel), sw_T_at 138 (by decide +kernel), by decide, by decide +kernel, by decide +kernel⟩, sw_T_at 1823 (by decide +kernel), sw_T_at 76 (by decide +kernel)⟩
def m_X11_isGap : sw_M := (yX11_isGap, cX11_isGap, 3, some .boolean, 11)
theorem mk_X11_isGap : sw_okV m_X11_isGap := ⟨⟨sw_T_at 1815 (by decide +kernel), sw_T_at 138 (by decide +kernel), by decide, by decide +kernel, by decide +kernel⟩, sw_T_at 1814 (by decide +kernel), sw_T_at 75 (by decide +kernel)⟩
def m_X11_isOpen : sw_M := (yX11_isOpen, cX11_isOpen, 2, some .boolean, 11)
theorem mk_X11_isOpen : sw_okV m_X11_isOpen := ⟨⟨sw_T_at 1786 (by decide +kernel), sw_T_at 138 (by decide +kernel), by decide, by decide +kernel, by decide +kernel⟩, sw_T_at 1785 (by decide +kernel), sw_T_at 71 (by decide +kernel)⟩
def m_X11_milesOf : sw_M := (yX11_milesOf, cX11_milesOf, 2, some .int, 11)
theorem mk_X11_milesOf : sw_okV m_X11_milesOf := ⟨⟨sw_T_at 1908 (by decide +kernel), sw_T_at 138 (by decide +kernel), by decide, by decide +kernel, by decide +kernel⟩, sw_T_at 1907 (by decide +kernel), sw_T_at 93 (by decide +kernel)⟩
def m_X11_fieldOf : sw_M := (yX11_fieldOf, cX11_fieldOf, 2, some .int, 11)
theorem mk_X11_fieldOf : sw_okV m_X11_fieldOf := ⟨⟨sw_T_at 1828 (by decide +kernel), sw_T_at 138 (by decide +kernel), by decide, by decide +kernel, by decide +kernel⟩, sw_T_at 1827 (by decide +kernel), sw_T_at 77 (by decide +kernel)⟩
def m_X11_woolOf : sw_M := (yX11_woolOf, cX11_woolOf, 2, some .int, 11)
theorem mk_X11_woolOf : sw_okV m_X11_woolOf := ⟨⟨sw_T_at 1794 (by decide +kernel), sw_T_at 138 (by decide +kernel), by decide, by decide +kernel, by decide +kernel⟩, sw_T_at 1793 (by decide +kernel), sw_T_at 73 (by decide +kernel)⟩
def m_X11_crimpOf : sw_M := (yX11_crimpOf, cX11_crimpOf, 2, some .int, 11)
theorem mk_X11_crimpOf : sw_okV m_X11_crimpOf := ⟨⟨sw_T_at 1836 (by decide +kernel), sw_T_at 138 (by decide +kernel), by decide, by decide +kernel, by decide +kernel⟩, sw_T_at 1835 (by decide +kernel), sw_T_at 79 (by decide +kernel)⟩
def m_X11_ledOf : sw_M := (yX11_ledOf, cX11_ledOf, 2, some .int, 11)
theorem mk_X11_ledOf : sw_okV m_X11_ledOf := ⟨⟨sw_T_at 1840 (by decide +kernel), sw_T_at 138 (by decide +kernel), by decide, by decide +kernel, by decide +kernel⟩, sw_T_at 1839 (by decide +kernel), sw_T_at 80 (by decide +kernel)⟩
def m_X11_seenOf : sw_M := (yX11_seenOf, cX11_seenOf, 3, some .int, 11)
theorem mk_X11_seenOf : sw_okV m_X11_seenOf := ⟨⟨sw_T_at 1852 (by decide +kernel), sw_T_at 138 (by decide +kernel), by decide, by decide +kernel, by decide +kernel⟩, sw_T_at 1851 (by decide +kernel), sw_T_at 82 (by decide +kernel)⟩
def m_X11_homeOf : sw_M := (yX11_homeOf, cX11_homeOf, 2, some .int, 11)
theorem mk_X11_homeOf : sw_okV m_X11_homeOf := ⟨⟨sw_T_at 1844 (by decide +kernel), sw_T_at 138 (by decide +kernel), by decide, by decide +kernel, by decide +kernel⟩, sw_T_at 1843 (by decide +kernel), sw_T_at 81 (by decide +kernel)⟩
def m_X11_curiousOf : sw_M := (yX11_curiousOf, cX11_curiousOf, 2, some .int, 11)
theorem mk_X11_curiousOf : sw_okV m_X11_curiousOf := ⟨⟨sw_T_at 1832 (by decide +kernel), sw_T_at 138 (by decide +kernel), by decide, by decide +kernel, by decide +kernel⟩, sw_T_at 1831 (by decide +kernel), sw_T_at 78 (by decide +kernel)⟩
def m_X11_acrossFrom : sw_M := (yX11_acrossFrom, cX11_acrossFrom, 3, some .int, 11)
theorem mk_X11_acrossFrom : sw_okV m_X11_acrossFrom := ⟨⟨sw_T_at 1900 (by decide +kernel), sw_T_at 138 (by decide +kernel), by decide, by decide +kernel, by decide +kernel⟩, sw_T_at 1899 (by decide +kernel), sw_T_at 91 (by decide +kernel)⟩
def m_X11_beyond : sw_M := (yX11_beyond, cX11_beyond, 3, some .int, 11)
theorem mk_X11_beyond : sw_okV m_X11_beyond := ⟨⟨sw_T_at 1896 (by decide +kernel), sw_T_at 138 (by decide +kernel), by decide, by decide +kernel, by decide +kernel⟩, sw_T_at 1895 (by decide +kernel), sw_T_at 90 (by decide +kernel)⟩
def m_X11_isTold : sw_M := (yX11_isTold, cX11_isTold, 2, some .boolean, 11)
theorem mk_X11_isTold : sw_okV m_X11_isTold := ⟨⟨sw_T_at 1868 (by decide +kernel), sw_T_at 138 (by decide +kernel), by decide, by decide +kernel, by decide +kernel⟩, sw_T_at 1867 (by decide +kernel), sw_T_at 85 (by decide +kernel)⟩
def m_X11_codesTell : sw_M := (yX11_codesTell, cX11_codesTell, 5, some .long, 11)
theorem mk_X11_codesTell : sw_okV m_X11_codesTell := ⟨⟨sw_T_at 1872 (by decide +kernel), sw_T_at 138 (by decide +kernel), by decide, by decide +kernel, by decide +kernel⟩, sw_T_at 1871 (by decide +kernel), sw_T_at 86 (by decide +kernel)⟩
def m_X11_luresOf : sw_M := (yX11_luresOf, cX11_luresOf, 3, some .long, 11)
theorem mk_X11_luresOf : sw_okV m_X11_luresOf := ⟨⟨sw_T_at 1904 (by decide +kernel), sw_T_at 138 (by decide +kernel), by decide, by decide +kernel, by decide +kernel⟩, sw_T_at 1903 (by decide +kernel), sw_T_at 92 (by decide +kernel)⟩
def m_X11_doesStay : sw_M := (yX11_doesStay, cX11_doesStay, 2, some .boolean, 11)
theorem mk_X11_doesStay : sw_okV m_X11_doesStay := ⟨⟨sw_T_at 1864 (by decide +kernel), sw_T_at 138 (by decide +kernel), by decide, by decide +kernel, by decide +kernel⟩, sw_T_at 1863 (by decide +kernel), sw_T_at 84 (by decide +kernel)⟩
def m_X11_worthOf : sw_M := (yX11_worthOf, cX11_worthOf, 4, some .int, 11)
theorem mk_X11_worthOf : sw_okV m_X11_worthOf := ⟨⟨sw_T_at 1916 (by decide +kernel), sw_T_at 138 (by decide +kernel), by decide, by decide +kernel, by decide +kernel⟩, sw_T_at 1915 (by decide +kernel), sw_T_at 94 (by decide +kernel)⟩
def m_X11_gapFor : sw_M := (yX11_gapFor, cX11_gapFor, 8, some .int, 11)
theorem mk_X11_gapFor : sw_okV m_X11_gapFor := ⟨⟨sw_T_at 1860 (by decide +kernel), sw_T_at 138 (by decide +kernel), by decide, by decide +kernel, by decide +kernel⟩, sw_T_at 1859 (by decide +kernel), sw_T_at 83 (by decide +kernel)⟩
def m_X11_least : sw_M := (yX11_least, cX11_least, 2, some .int, 11)
theorem mk_X11_least : sw_okS m_X11_least := ⟨⟨sw_T_at 1949 (by decide +kernel), sw_T_at 138 (by decide +kernel), by decide, by decide +kernel, by decide +kernel⟩, sw_T_at 1948 (by decide +kernel)⟩
def m_X11_goesThrough : sw_M := (yX11_goesThrough, cX11_goesThrough, 5, none, 11)
theorem mk_X11_goesThrough : sw_okV m_X11_goesThrough := ⟨⟨sw_T_at 1946 (by decide +kernel), sw_T_at 138 (by decide +kernel), by decide, by decide +kernel, by decide +kernel⟩, sw_T_at 1945 (by decide +kernel), sw_T_at 99 (by decide +kernel)⟩
def m_X11_isKept : sw_M := (yX11_isKept, cX11_isKept, 4, none, 11)
theorem mk_X11_isKept : sw_okV m_X11_isKept := ⟨⟨sw_T_at 1953 (by decide +kernel), sw_T_at 138 (by decide +kernel), by decide, by decide +kernel, by decide +kernel⟩, sw_T_at 1952 (by decide +kernel), sw_T_at 100 (by decide +kernel)⟩
def m_X11_sheepGoes : sw_M := (yX11_sheepGoes, cX11_sheepGoes, 3, none, 11)
theorem mk_X11_sheepGoes : sw_okV m_X11_sheepGoes := ⟨⟨sw_T_at 1942 (by decide +kernel), sw_T_at 138 (by decide +kernel), by decide, by decide +kernel, by decide +kernel⟩, sw_T_at 1941 (by decide +kernel), sw_T_at 98 (by decide +kernel)⟩
def m_X11_dayGoes : sw_M := (yX11_dayGoes, cX11_dayGoes, 2, none, 11)
theorem mk_X11_dayGoes : sw_okV m_X11_dayGoes := ⟨⟨sw_T_at 1988 (by decide +kernel), sw_T_at 138 (by decide +kernel), by decide, by decide +kernel, by decide +kernel⟩, sw_T_at 1987 (by decide +kernel), sw_T_at 105 (by decide +kernel)⟩
def m_X11_daysGo : sw_M := (yX11_daysGo, cX11_daysGo, 3, none, 11)
theorem mk_X11_daysGo : sw_okV m_X11_daysGo := ⟨⟨sw_T_at 1984 (by decide +kernel), sw_T_at 138 (by decide +kernel), by decide, by decide +kernel, by decide +kernel⟩, sw_T_at 1983 (by decide +kernel), sw_T_at 104 (by decide +kernel)⟩
def m_X11_oneGoes : sw_M := (yX11_oneGoes, cX11_oneGoes, 4, none, 11)
theorem mk_X11_oneGoes : sw_okV m_X11_oneGoes := ⟨⟨sw_T_at 1938 (by decide +kernel), sw_T_at 138 (by decide +kernel), by decide, by decide +kernel, by decide +kernel⟩, sw_T_at 1937 (by decide +kernel), sw_T_at 97 (by decide +kernel)⟩
def m_X11_putsAside : sw_M := (yX11_putsAside, cX11_putsAside, 2, none, 11)
theorem mk_X11_putsAside : sw_okV m_X11_putsAside := ⟨⟨sw_T_at 1934 (by decide +kernel), sw_T_at 138 (by decide +kernel), by decide, by decide +kernel, by decide +kernel⟩, sw_T_at 1933 (by decide +kernel), sw_T_at 96 (by decide +kernel)⟩
def m_X11_triesAnew : sw_M := (yX11_triesAnew, cX11_triesAnew, 2, none, 11)
theorem mk_X11_triesAnew : sw_okV m_X11_triesAnew := ⟨⟨sw_T_at 1961 (by decide +kernel), sw_T_at 138 (by decide +kernel), by decide, by decide +kernel, by decide +kernel⟩, sw_T_at 1960 (by decide +kernel), sw_T_at 102 (by decide +kernel)⟩
def m_X11_takesBack : sw_M := (yX11_takesBack, cX11_takesBack, 1, none, 11)
theorem mk_X11_takesBack : sw_okV m_X11_takesBack := ⟨⟨sw_T_at 1957 (by decide +kernel), sw_T_at 138 (by decide +kernel), by decide, by decide +kernel, by decide +kernel⟩, sw_T_at 1956 (by decide +kernel), sw_T_at 101 (by decide +kernel)⟩
def m_X11_isAhead : sw_M := (yX11_isAhead, cX11_isAhead, 4, some .boolean, 11)
theorem mk_X11_isAhead : sw_okV m_X11_isAhead := ⟨⟨sw_T_at 1929 (by decide +kernel), sw_T_at 138 (by decide +kernel), by decide, by decide +kernel, by decide +kernel⟩, sw_T_at 1928 (by decide +kernel), sw_T_at 95 (by decide +kernel)⟩
def m_X11_bits : sw_M := (yX11_bits, cX11_bits, 3, some .int, 11)
theorem mk_X11_bits : sw_okS m_X11_bits := ⟨⟨sw_T_at 1972 (by decide +kernel), sw_T_at 138 (by decide +kernel), by decide, by decide +kernel, by decide +kernel⟩, sw_T_at 1971 (by decide +kernel)⟩
def m_X11_openMany : sw_M := (yX11_openMany, cX11_openMany, 3, some .int, 11)
theorem mk_X11_openMany : sw_okV m_X11_openMany := ⟨⟨sw_T_at 1782 (by decide +kernel), sw_T_at 138 (by decide +kernel), by decide, by decide +kernel, by decide +kernel⟩, sw_T_at 1781 (by decide +kernel), sw_T_at 70 (by decide +kernel)⟩
def m_X11_woolAll : sw_M := (yX11_woolAll, cX11_woolAll, 3, some .int, 11)
theorem mk_X11_woolAll : sw_okV m_X11_woolAll := ⟨⟨sw_T_at 1790 (by decide +kernel), sw_T_at 138 (by decide +kernel), by decide, by decide +kernel, by decide +kernel⟩, sw_T_at 1789 (by decide +kernel), sw_T_at 72 (by decide +kernel)⟩
def m_X11_has : sw_M := (yX11_has, cX11_has, 2, some .int, 11)
theorem mk_X11_has : sw_okV m_X11_has := ⟨⟨sw_T_at 1766 (by decide +kernel), sw_T_at 138 (by decide +kernel), by decide, by decide +kernel, by decide +kernel⟩, sw_T_at 1764 (by decide +kernel), sw_T_at 1765 (by decide +kernel)⟩
def m_X11_letter : sw_M := (yX11_letter, cX11_letter, 9, some .int, 11)
theorem mk_X11_letter : sw_okV m_X11_letter := ⟨⟨sw_T_at 1798 (by decide +kernel), sw_T_at 138 (by decide +kernel), by decide, by decide +kernel, by decide +kernel⟩, sw_T_at 1796 (by decide +kernel), sw_T_at 1797 (by decide +kernel)⟩
def m_X11_lure : sw_M := (yX11_lure, cX11_lure, 2, some .int, 11)
theorem mk_X11_lure : sw_okV m_X11_lure := ⟨⟨sw_T_at 1803 (by decide +kernel), sw_T_at 138 (by decide +kernel), by decide, by decide +kernel, by decide +kernel⟩, sw_T_at 1801 (by decide +kernel), sw_T_at 1802 (by decide +kernel)⟩
def m_X11_gap : sw_M := (yX11_gap, cX11_gap, 3, some .int, 11)
theorem mk_X11_gap : sw_okV m_X11_gap := ⟨⟨sw_T_at 1811 (by decide +kernel), sw_T_at 138 (by decide +kernel), by decide, by decide +kernel, by decide +kernel⟩, sw_T_at 1809 (by decide +kernel), sw_T_at 1810 (by decide +kernel)⟩
def m_X11_sheep : sw_M := (yX11_sheep, cX11_sheep, 3, some .int, 11)
theorem mk_X11_sheep : sw_okV m_X11_sheep := ⟨⟨sw_T_at 1820 (by decide +kernel), sw_T_at 138 (by decide +kernel), by decide, by decide +kernel, by decide +kernel⟩, sw_T_at 1818 (by decide +kernel), sw_T_at 1819 (by decide +kernel)⟩
def m_X11_seen : sw_M := (yX11_seen, cX11_seen, 3, some .int, 11)
theorem mk_X11_seen : sw_okV m_X11_seen := ⟨⟨sw_T_at 1848 (by decide +kernel), sw_T_at 138 (by decide +kernel), by decide, by decide +kernel, by decide +kernel⟩, sw_T_at 1846 (by decide +kernel), sw_T_at 1847 (by decide +kernel)⟩
def m_X11_strays : sw_M := (yX11_strays, cX11_strays, 2, some .int, 11)
theorem mk_X11_strays : sw_okV m_X11_strays := ⟨⟨sw_T_at 1856 (by decide +kernel), sw_T_at 138 (by decide +kernel), by decide, by decide +kernel, by decide +kernel⟩, sw_T_at 1854 (by decide +kernel), sw_T_at 1855 (by decide +kernel)⟩
def m_X11_brings : sw_M := (yX11_brings, cX11_brings, 2, some .int, 11)
theorem mk_X11_brings : sw_okV m_X11_brings := ⟨⟨sw_T_at 1912 (by decide +kernel), sw_T_at 138 (by decide +kernel), by decide, by decide +kernel, by decide +kernel⟩, sw_T_at 1910 (by decide +kernel), sw_T_at 1911 (by decide +kernel)⟩
def m_X11_kept : sw_M := (yX11_kept, cX11_kept, 3, some .int, 11)
theorem mk_X11_kept : sw_okV m_X11_kept := ⟨⟨sw_T_at 1921 (by decide +kernel), sw_T_at 138 (by decide +kernel), by decide, by decide +kernel, by decide +kernel⟩, sw_T_at 1919 (by decide +kernel), sw_T_at 1920 (by decide +kernel)⟩
def m_X11_later : sw_M := (yX11_later, cX11_later, 5, some .int, 11)
theorem mk_X11_later : sw_okV m_X11_later := ⟨⟨sw_T_at 1925 (by decide +kernel), sw_T_at 138 (by decide +kernel), by decide, by decide +kernel, by decide +kernel⟩, sw_T_at 1923 (by decide +kernel), sw_T_at 1924 (by decide +kernel)⟩
def m_X11_home : sw_M := (yX11_home, cX11_home, 4, some .int, 11)
theorem mk_X11_home : sw_okV m_X11_home := ⟨⟨sw_T_at 1965 (by decide +kernel), sw_T_at 138 (by decide +kernel), by decide, by decide +kernel, by decide +kernel⟩, sw_T_at 1963 (by decide +kernel), sw_T_at 1964 (by decide +kernel)⟩
def m_X11_changes : sw_M := (yX11_changes, cX11_changes, 3, none, 11)
theorem mk_X11_changes : sw_okV m_X11_changes := ⟨⟨sw_T_at 1976 (by decide +kernel), sw_T_at 138 (by decide +kernel), by decide, by decide +kernel, by decide +kernel⟩, sw_T_at 1975 (by decide +kernel), sw_T_at 103 (by decide +kernel)⟩
def m_X11_gaps : sw_M := (yX11_gaps, cX11_gaps, 6, some .int, 11)
theorem mk_X11_gaps : sw_okV m_X11_gaps := ⟨⟨sw_T_at 1969 (by decide +kernel), sw_T_at 138 (by decide +kernel), by decide, by decide +kernel, by decide +kernel⟩, sw_T_at 1967 (by decide +kernel), sw_T_at 1968 (by decide +kernel)⟩
def m_X11_rumour : sw_M := (yX11_rumour, cX11_rumour, 7, some .int, 11)
theorem mk_X11_rumour : sw_okV m_X11_rumour := ⟨⟨sw_T_at 1980 (by decide +kernel), sw_T_at 138 (by decide +kernel), by decide, by decide +kernel, by decide +kernel⟩, sw_T_at 1978 (by decide +kernel), sw_T_at 1979 (by decide +kernel)⟩
def m_X11_isCheaper : sw_M := (yX11_isCheaper, cX11_isCheaper, 4, some .boolean, 11)
theorem mk_X11_isCheaper : sw_okV m_X11_isCheaper := ⟨⟨sw_T_at 1996 (by decide +kernel), sw_T_at 138 (by decide +kernel), by decide, by decide +kernel, by decide +kernel⟩, sw_T_at 1995 (by decide +kernel), sw_T_at 106 (by decide +kernel)⟩
def m_X11_way : sw_M := (yX11_way, cX11_way, 7, some .int, 11)
theorem mk_X11_way : sw_okV m_X11_way := ⟨⟨sw_T_at 1992 (by decide +kernel), sw_T_at 138 (by decide +kernel), by decide, by decide +kernel, by decide +kernel⟩, sw_T_at 1990 (by decide +kernel), sw_T_at 1991 (by decide +kernel)⟩
def m_X11_waits : sw_M := (yX11_waits, cX11_waits, 8, some .int, 11)
theorem mk_X11_waits : sw_okV m_X11_waits := ⟨⟨sw_T_at 2000 (by decide +kernel), sw_T_at 138 (by decide +kernel), by decide, by decide +kernel, by decide +kernel⟩, sw_T_at 1998 (by decide +kernel), sw_T_at 1999 (by decide +kernel)⟩
def m_X11_milesBy : sw_M := (yX11_milesBy, cX11_milesBy, 4, some .int, 11)
theorem mk_X11_milesBy : sw_okV m_X11_milesBy := ⟨⟨sw_T_at 2008 (by decide +kernel), sw_T_at 138 (by decide +kernel), by decide, by decide +kernel, by decide +kernel⟩, sw_T_at 2007 (by decide +kernel), sw_T_at 107 (by decide +kernel)⟩
def m_X11_coat : sw_M := (yX11_coat, cX11_coat, 5, some .int, 11)
theorem mk_X11_coat : sw_okV m_X11_coat := ⟨⟨sw_T_at 2004 (by decide +kernel), sw_T_at 138 (by decide +kernel), by decide, by decide +kernel, by decide +kernel⟩, sw_T_at 2002 (by decide +kernel), sw_T_at 2003 (by decide +kernel)⟩
def m_X11_watchers : sw_M := (yX11_watchers, cX11_watchers, 5, some .int, 11)
theorem mk_X11_watchers : sw_okV m_X11_watchers := ⟨⟨sw_T_at 2016 (by decide +kernel), sw_T_at 138 (by decide +kernel), by decide, by decide +kernel, by decide +kernel⟩, sw_T_at 2015 (by decide +kernel), sw_T_at 108 (by decide +kernel)⟩
def m_X11_watch : sw_M := (yX11_watch, cX11_watch, 6, some .int, 11)
theorem mk_X11_watch : sw_okV m_X11_watch := ⟨⟨sw_T_at 2012 (by decide +kernel), sw_T_at 138 (by decide +kernel), by decide, by decide +kernel, by decide +kernel⟩, sw_T_at 2010 (by decide +kernel), sw_T_at 2011 (by decide +kernel)⟩
def m_X11_waysGo : sw_M := (yX11_waysGo, cX11_waysGo, 5, none, 11)
theorem mk_X11_waysGo : sw_okV m_X11_waysGo := ⟨⟨sw_T_at 2027 (by decide +kernel), sw_T_at 138 (by decide +kernel), by decide, by decide +kernel, by decide +kernel⟩, sw_T_at 2026 (by decide +kernel), sw_T_at 109 (by decide +kernel)⟩
def m_X11_ways : sw_M := (yX11_ways, cX11_ways, 7, some .long, 11)
theorem mk_X11_ways : sw_okV m_X11_ways := ⟨⟨sw_T_at 2020 (by decide +kernel), sw_T_at 138 (by decide +kernel), by decide, by decide +kernel, by decide +kernel⟩, sw_T_at 2018 (by decide +kernel), sw_T_at 2019 (by decide +kernel)⟩
def m_X11_refuses : sw_M := (yX11_refuses, cX11_refuses, 2, some .int, 11)
theorem mk_X11_refuses : sw_okV m_X11_refuses := ⟨⟨sw_T_at 2035 (by decide +kernel), sw_T_at 138 (by decide +kernel), by decide, by decide +kernel, by decide +kernel⟩, sw_T_at 2034 (by decide +kernel), sw_T_at 110 (by decide +kernel)⟩
def m_X11_feel : sw_M := (yX11_feel, cX11_feel, 4, some .int, 11)
theorem mk_X11_feel : sw_okV m_X11_feel := ⟨⟨sw_T_at 2031 (by decide +kernel), sw_T_at 138 (by decide +kernel), by decide, by decide +kernel, by decide +kernel⟩, sw_T_at 2029 (by decide +kernel), sw_T_at 2030 (by decide +kernel)⟩
def m_X11_isAsFelt : sw_M := (yX11_isAsFelt, cX11_isAsFelt, 3, some .boolean, 11)
theorem mk_X11_isAsFelt : sw_okV m_X11_isAsFelt := ⟨⟨sw_T_at 2047 (by decide +kernel), sw_T_at 138 (by decide +kernel), by decide, by decide +kernel, by decide +kernel⟩, sw_T_at 2046 (by decide +kernel), sw_T_at 112 (by decide +kernel)⟩
def m_X11_curiousSet : sw_M := (yX11_curiousSet, cX11_curiousSet, 7, some .int, 11)
theorem mk_X11_curiousSet : sw_okV m_X11_curiousSet := ⟨⟨sw_T_at 2043 (by decide +kernel), sw_T_at 138 (by decide +kernel), by decide, by decide +kernel, by decide +kernel⟩, sw_T_at 2042 (by decide +kernel), sw_T_at 111 (by decide +kernel)⟩
def m_X11_curious : sw_M := (yX11_curious, cX11_curious, 2, some .int, 11)
theorem mk_X11_curious : sw_okV m_X11_curious := ⟨⟨sw_T_at 2039 (by decide +kernel), sw_T_at 138 (by decide +kernel), by decide, by decide +kernel, by decide +kernel⟩, sw_T_at 2037 (by decide +kernel), sw_T_at 2038 (by decide +kernel)⟩
def m_X11_mostAlike : sw_M := (yX11_mostAlike, cX11_mostAlike, 7, some .int, 11)
theorem mk_X11_mostAlike : sw_okV m_X11_mostAlike := ⟨⟨sw_T_at 2055 (by decide +kernel), sw_T_at 138 (by decide +kernel), by decide, by decide +kernel, by decide +kernel⟩, sw_T_at 2054 (by decide +kernel), sw_T_at 113 (by decide +kernel)⟩
def m_X11_tells : sw_M := (yX11_tells, cX11_tells, 10, some .int, 11)
theorem mk_X11_tells : sw_okV m_X11_tells := ⟨⟨sw_T_at 2051 (by decide +kernel), sw_T_at 138 (by decide +kernel), by decide, by decide +kernel, by decide +kernel⟩, sw_T_at 2049 (by decide +kernel), sw_T_at 2050 (by decide +kernel)⟩
def m_X11_keeps : sw_M := (yX11_keeps, cX11_keeps, 2, none, 11)
theorem mk_X11_keeps : sw_okV m_X11_keeps := ⟨⟨sw_T_at 2067 (by decide +kernel), sw_T_at 138 (by decide +kernel), by decide, by decide +kernel, by decide +kernel⟩, sw_T_at 2066 (by decide +kernel), sw_T_at 114 (by decide +kernel)⟩
def m_X11_undo : sw_M := (yX11_undo, cX11_undo, 2, some .boolean, 11)
theorem mk_X11_undo : sw_okV m_X11_undo := ⟨⟨sw_T_at 2059 (by decide +kernel), sw_T_at 138 (by decide +kernel), by decide, by decide +kernel, by decide +kernel⟩, sw_T_at 2057 (by decide +kernel), sw_T_at 2058 (by decide +kernel)⟩
def m_X11_shear : sw_M := (yX11_shear, cX11_shear, 4, some .int, 11)
theorem mk_X11_shear : sw_okV m_X11_shear := ⟨⟨sw_T_at 2063 (by decide +kernel), sw_T_at 138 (by decide +kernel), by decide, by decide +kernel, by decide +kernel⟩, sw_T_at 2061 (by decide +kernel), sw_T_at 2062 (by decide +kernel)⟩
def m_X11_isRefused : sw_M := (yX11_isRefused, cX11_isRefused, 1, some .boolean, 11)
theorem mk_X11_isRefused : sw_okV m_X11_isRefused := ⟨⟨sw_T_at 2076 (by decide +kernel), sw_T_at 138 (by decide +kernel), by decide, by decide +kernel, by decide +kernel⟩, sw_T_at 2075 (by decide +kernel), sw_T_at 115 (by decide +kernel)⟩
def m_X11_lead : sw_M := (yX11_lead, cX11_lead, 3, some .boolean, 11)
theorem mk_X11_lead : sw_okV m_X11_lead := ⟨⟨sw_T_at 2072 (by decide +kernel), sw_T_at 138 (by decide +kernel), by decide, by decide +kernel, by decide +kernel⟩, sw_T_at 2070 (by decide +kernel), sw_T_at 2071 (by decide +kernel)⟩
def m_X11_swing : sw_M := (yX11_swing, cX11_swing, 3, some .boolean, 11)
theorem mk_X11_swing : sw_okV m_X11_swing := ⟨⟨sw_T_at 2080 (by decide +kernel), sw_T_at 138 (by decide +kernel), by decide, by decide +kernel, by decide +kernel⟩, sw_T_at 2078 (by decide +kernel), sw_T_at 2079 (by decide +kernel)⟩
def m_X11_tell : sw_M := (yX11_tell, cX11_tell, 4, some .boolean, 11)
theorem mk_X11_tell : sw_okV m_X11_tell := ⟨⟨sw_T_at 2084 (by decide +kernel), sw_T_at 138 (by decide +kernel), by decide, by decide +kernel, by decide +kernel⟩, sw_T_at 2082 (by decide +kernel), sw_T_at 2083 (by decide +kernel)⟩
def m_X11_days : sw_M := (yX11_days, cX11_days, 2, some .int, 11)
theorem mk_X11_days : sw_okV m_X11_days := ⟨⟨sw_T_at 2089 (by decide +kernel), sw_T_at 138 (by decide +kernel), by decide, by decide +kernel, by decide +kernel⟩, sw_T_at 2087 (by decide +kernel), sw_T_at 2088 (by decide +kernel)⟩
def m_X11_seed : sw_M := (yX11_seed, cX11_seed, 2, some .boolean, 11)
theorem mk_X11_seed : sw_okV m_X11_seed := ⟨⟨sw_T_at 2093 (by decide +kernel), sw_T_at 138 (by decide +kernel), by decide, by decide +kernel, by decide +kernel⟩, sw_T_at 2091 (by decide +kernel), sw_T_at 2092 (by decide +kernel)⟩
def m_X11_drawOf : sw_M := (yX11_drawOf, cX11_drawOf, 2, some .int, 11)
theorem mk_X11_drawOf : sw_okV m_X11_drawOf := ⟨⟨sw_T_at 2101 (by decide +kernel), sw_T_at 138 (by decide +kernel), by decide, by decide +kernel, by decide +kernel⟩, sw_T_at 2100 (by decide +kernel), sw_T_at 116 (by decide +kernel)⟩
def m_X11_chance : sw_M := (yX11_chance, cX11_chance, 4, some .int, 11)
theorem mk_X11_chance : sw_okV m_X11_chance := ⟨⟨sw_T_at 2097 (by decide +kernel), sw_T_at 138 (by decide +kernel), by decide, by decide +kernel, by decide +kernel⟩, sw_T_at 2095 (by decide +kernel), sw_T_at 2096 (by decide +kernel)⟩
def m_X11_qCode : sw_M := (yX11_qCode, cX11_qCode, 2, none, 11)
theorem mk_X11_qCode : sw_okV m_X11_qCode := ⟨⟨sw_T_at 1681 (by decide +kernel), sw_T_at 138 (by decide +kernel), by decide, by decide +kernel, by decide +kernel⟩, sw_T_at 1680 (by decide +kernel), sw_T_at 48 (by decide +kernel)⟩
def m_X11_qOpens : sw_M := (yX11_qOpens, cX11_qOpens, 3, none, 11)
theorem mk_X11_qOpens : sw_okV m_X11_qOpens := ⟨⟨sw_T_at 1673 (by decide +kernel), sw_T_at 138 (by decide +kernel), by decide, by decide +kernel, by decide +kernel⟩, sw_T_at 1672 (by decide +kernel), sw_T_at 46 (by decide +kernel)⟩
def m_X11_qIsOn : sw_M := (yX11_qIsOn, cX11_qIsOn, 2, some .boolean, 11)
theorem mk_X11_qIsOn : sw_okV m_X11_qIsOn := ⟨⟨sw_T_at 1742 (by decide +kernel), sw_T_at 138 (by decide +kernel), by decide, by decide +kernel, by decide +kernel⟩, sw_T_at 1741 (by decide +kernel), sw_T_at 62 (by decide +kernel)⟩
def m_X11_qDrops : sw_M := (yX11_qDrops, cX11_qDrops, 1, none, 11)
theorem mk_X11_qDrops : sw_okV m_X11_qDrops := ⟨⟨sw_T_at 1723 (by decide +kernel), sw_T_at 138 (by decide +kernel), by decide, by decide +kernel, by decide +kernel⟩, sw_T_at 1722 (by decide +kernel), sw_T_at 58 (by decide +kernel)⟩
def m_X11_qIsBracket : sw_M := (yX11_qIsBracket, cX11_qIsBracket, 1, some .boolean, 11)
theorem mk_X11_qIsBracket : sw_okS m_X11_qIsBracket := ⟨⟨sw_T_at 1734 (by decide +kernel), sw_T_at 138 (by decide +kernel), by decide, by decide +kernel, by decide +kernel⟩, sw_T_at 1733 (by decide +kernel)⟩
def m_X11_qBracket : sw_M := (yX11_qBracket, cX11_qBracket, 2, some .int, 11)
theorem mk_X11_qBracket : sw_okV m_X11_qBracket := ⟨⟨sw_T_at 1731 (by decide +kernel), sw_T_at 138 (by decide +kernel), by decide, by decide +kernel, by decide +kernel⟩, sw_T_at 1730 (by decide +kernel), sw_T_at 60 (by decide +kernel)⟩
def m_X11_qDropsToBracket : sw_M := (yX11_qDropsToBracket, cX11_qDropsToBracket, 1, none, 11)
theorem mk_X11_qDropsToBracket : sw_okV m_X11_qDropsToBracket := ⟨⟨sw_T_at 1738 (by decide +kernel), sw_T_at 138 (by decide +kernel), by decide, by decide +kernel, by decide +kernel⟩, sw_T_at 1737 (by decide +kernel), sw_T_at 61 (by decide +kernel)⟩
def m_X11_qWordHere : sw_M := (yX11_qWordHere, cX11_qWordHere, 1, some .int, 11)
theorem mk_X11_qWordHere : sw_okV m_X11_qWordHere := ⟨⟨sw_T_at 1697 (by decide +kernel), sw_T_at 138 (by decide +kernel), by decide, by decide +kernel, by decide +kernel⟩, sw_T_at 1696 (by decide +kernel), sw_T_at 52 (by decide +kernel)⟩
def m_X11_qWordOf : sw_M := (yX11_qWordOf, cX11_qWordOf, 4, some .int, 11)
theorem mk_X11_qWordOf : sw_okV m_X11_qWordOf := ⟨⟨sw_T_at 1693 (by decide +kernel), sw_T_at 138 (by decide +kernel), by decide, by decide +kernel, by decide +kernel⟩, sw_T_at 1692 (by decide +kernel), sw_T_at 51 (by decide +kernel)⟩
def m_X11_qAsksWord : sw_M := (yX11_qAsksWord, cX11_qAsksWord, 2, none, 11)
theorem mk_X11_qAsksWord : sw_okV m_X11_qAsksWord := ⟨⟨sw_T_at 1715 (by decide +kernel), sw_T_at 138 (by decide +kernel), by decide, by decide +kernel, by decide +kernel⟩, sw_T_at 1714 (by decide +kernel), sw_T_at 56 (by decide +kernel)⟩
def m_X11_qEndsPart : sw_M := (yX11_qEndsPart, cX11_qEndsPart, 1, none, 11)
theorem mk_X11_qEndsPart : sw_okV m_X11_qEndsPart := ⟨⟨sw_T_at 1719 (by decide +kernel), sw_T_at 138 (by decide +kernel), by decide, by decide +kernel, by decide +kernel⟩, sw_T_at 1718 (by decide +kernel), sw_T_at 57 (by decide +kernel)⟩
def m_X11_qPartTold : sw_M := (yX11_qPartTold, cX11_qPartTold, 6, none, 11)
theorem mk_X11_qPartTold : sw_okV m_X11_qPartTold := ⟨⟨sw_T_at 1689 (by decide +kernel), sw_T_at 138 (by decide +kernel), by decide, by decide +kernel, by decide +kernel⟩, sw_T_at 1688 (by decide +kernel), sw_T_at 50 (by decide +kernel)⟩
def m_X11_qGoesOn : sw_M := (yX11_qGoesOn, cX11_qGoesOn, 2, some .boolean, 11)
theorem mk_X11_qGoesOn : sw_okV m_X11_qGoesOn := ⟨⟨sw_T_at 1727 (by decide +kernel), sw_T_at 138 (by decide +kernel), by decide, by decide +kernel, by decide +kernel⟩, sw_T_at 1726 (by decide +kernel), sw_T_at 59 (by decide +kernel)⟩
def m_X11_qSums : sw_M := (yX11_qSums, cX11_qSums, 3, none, 11)
theorem mk_X11_qSums : sw_okV m_X11_qSums := ⟨⟨sw_T_at 1685 (by decide +kernel), sw_T_at 138 (by decide +kernel), by decide, by decide +kernel, by decide +kernel⟩, sw_T_at 1684 (by decide +kernel), sw_T_at 49 (by decide +kernel)⟩
def m_X11_qFact : sw_M := (yX11_qFact, cX11_qFact, 2, none, 11)
theorem mk_X11_qFact : sw_okV m_X11_qFact := ⟨⟨sw_T_at 1677 (by decide +kernel), sw_T_at 138 (by decide +kernel), by decide, by decide +kernel, by decide +kernel⟩, sw_T_at 1676 (by decide +kernel), sw_T_at 47 (by decide +kernel)⟩
def m_X11_qHasSquare : sw_M := (yX11_qHasSquare, cX11_qHasSquare, 2, some .boolean, 11)
theorem mk_X11_qHasSquare : sw_okV m_X11_qHasSquare := ⟨⟨sw_T_at 1754 (by decide +kernel), sw_T_at 138 (by decide +kernel), by decide, by decide +kernel, by decide +kernel⟩, sw_T_at 1753 (by decide +kernel), sw_T_at 65 (by decide +kernel)⟩
def m_X11_qDropsNots : sw_M := (yX11_qDropsNots, cX11_qDropsNots, 1, none, 11)
theorem mk_X11_qDropsNots : sw_okV m_X11_qDropsNots := ⟨⟨sw_T_at 1746 (by decide +kernel), sw_T_at 138 (by decide +kernel), by decide, by decide +kernel, by decide +kernel⟩, sw_T_at 1745 (by decide +kernel), sw_T_at 63 (by decide +kernel)⟩
def m_X11_qTest : sw_M := (yX11_qTest, cX11_qTest, 3, none, 11)
theorem mk_X11_qTest : sw_okV m_X11_qTest := ⟨⟨sw_T_at 1669 (by decide +kernel), sw_T_at 138 (by decide +kernel), by decide, by decide +kernel, by decide +kernel⟩, sw_T_at 1668 (by decide +kernel), sw_T_at 45 (by decide +kernel)⟩
def m_X11_qGoesOnTest : sw_M := (yX11_qGoesOnTest, cX11_qGoesOnTest, 1, some .boolean, 11)
theorem mk_X11_qGoesOnTest : sw_okV m_X11_qGoesOnTest := ⟨⟨sw_T_at 1750 (by decide +kernel), sw_T_at 138 (by decide +kernel), by decide, by decide +kernel, by decide +kernel⟩, sw_T_at 1749 (by decide +kernel), sw_T_at 64 (by decide +kernel)⟩
def m_X11_qClip : sw_M := (yX11_qClip, cX11_qClip, 2, some .long, 11)
theorem mk_X11_qClip : sw_okS m_X11_qClip := ⟨⟨sw_T_at 1887 (by decide +kernel), sw_T_at 138 (by decide +kernel), by decide, by decide +kernel, by decide +kernel⟩, sw_T_at 1886 (by decide +kernel)⟩
def m_X11_qFloor : sw_M := (yX11_qFloor, cX11_qFloor, 6, some .long, 11)
theorem mk_X11_qFloor : sw_okS m_X11_qFloor := ⟨⟨sw_T_at 1892 (by decide +kernel), sw_T_at 138 (by decide +kernel), by decide, by decide +kernel, by decide +kernel⟩, sw_T_at 1891 (by decide +kernel)⟩
def m_X11_qPuts : sw_M := (yX11_qPuts, cX11_qPuts, 3, none, 11)
theorem mk_X11_qPuts : sw_okV m_X11_qPuts := ⟨⟨sw_T_at 1876 (by decide +kernel), sw_T_at 138 (by decide +kernel), by decide, by decide +kernel, by decide +kernel⟩, sw_T_at 1875 (by decide +kernel), sw_T_at 87 (by decide +kernel)⟩
def m_X11_qJoins : sw_M := (yX11_qJoins, cX11_qJoins, 6, none, 11)
theorem mk_X11_qJoins : sw_okV m_X11_qJoins := ⟨⟨sw_T_at 1884 (by decide +kernel), sw_T_at 138 (by decide +kernel), by decide, by decide +kernel, by decide +kernel⟩, sw_T_at 1883 (by decide +kernel), sw_T_at 89 (by decide +kernel)⟩
def m_X11_qPartOf : sw_M := (yX11_qPartOf, cX11_qPartOf, 3, some .long, 11)
theorem mk_X11_qPartOf : sw_okV m_X11_qPartOf := ⟨⟨sw_T_at 1880 (by decide +kernel), sw_T_at 138 (by decide +kernel), by decide, by decide +kernel, by decide +kernel⟩, sw_T_at 1879 (by decide +kernel), sw_T_at 88 (by decide +kernel)⟩
def m_X11_qOf : sw_M := (yX11_qOf, cX11_qOf, 5, some .long, 11)
theorem mk_X11_qOf : sw_okV m_X11_qOf := ⟨⟨sw_T_at 2122 (by decide +kernel), sw_T_at 138 (by decide +kernel), by decide, by decide +kernel, by decide +kernel⟩, sw_T_at 2121 (by decide +kernel), sw_T_at 119 (by decide +kernel)⟩
def m_X11_qTold : sw_M := (yX11_qTold, cX11_qTold, 4, some .long, 11)
theorem mk_X11_qTold : sw_okV m_X11_qTold := ⟨⟨sw_T_at 2118 (by decide +kernel), sw_T_at 138 (by decide +kernel), by decide, by decide +kernel, by decide +kernel⟩, sw_T_at 2117 (by decide +kernel), sw_T_at 118 (by decide +kernel)⟩
def m_X11_qKind : sw_M := (yX11_qKind, cX11_qKind, 2, some .int, 11)
theorem mk_X11_qKind : sw_okV m_X11_qKind := ⟨⟨sw_T_at 2113 (by decide +kernel), sw_T_at 138 (by decide +kernel), by decide, by decide +kernel, by decide +kernel⟩, sw_T_at 2112 (by decide +kernel), sw_T_at 117 (by decide +kernel)⟩
def m_X11_qTakes : sw_M := (yX11_qTakes, cX11_qTakes, 6, none, 11)
theorem mk_X11_qTakes : sw_okV m_X11_qTakes := ⟨⟨sw_T_at 2126 (by decide +kernel), sw_T_at 138 (by decide +kernel), by decide, by decide +kernel, by decide +kernel⟩, sw_T_at 2125 (by decide +kernel), sw_T_at 120 (by decide +kernel)⟩
def m_X11_ask : sw_M := (yX11_ask, cX11_ask, 4, some .long, 11)
theorem mk_X11_ask : sw_okV m_X11_ask := ⟨⟨sw_T_at 2109 (by decide +kernel), sw_T_at 138 (by decide +kernel), by decide, by decide +kernel, by decide +kernel⟩, sw_T_at 2107 (by decide +kernel), sw_T_at 2108 (by decide +kernel)⟩
def m_X11_checked : sw_M := (yX11_checked, cX11_checked, 4, some .int, 11)
theorem mk_X11_checked : sw_okS m_X11_checked := ⟨⟨sw_T_at 2142 (by decide +kernel), sw_T_at 138 (by decide +kernel), by decide, by decide +kernel, by decide +kernel⟩, sw_T_at 2141 (by decide +kernel)⟩
def m_X11_writes : sw_M := (yX11_writes, cX11_writes, 2, none, 11)
theorem mk_X11_writes : sw_okV m_X11_writes := ⟨⟨sw_T_at 2138 (by decide +kernel), sw_T_at 138 (by decide +kernel), by decide, by decide +kernel, by decide +kernel⟩, sw_T_at 2137 (by decide +kernel), sw_T_at 122 (by decide +kernel)⟩
def m_X11_writesTwo : sw_M := (yX11_writesTwo, cX11_writesTwo, 2, none, 11)
theorem mk_X11_writesTwo : sw_okV m_X11_writesTwo := ⟨⟨sw_T_at 2134 (by decide +kernel), sw_T_at 138 (by decide +kernel), by decide, by decide +kernel, by decide +kernel⟩, sw_T_at 2133 (by decide +kernel), sw_T_at 121 (by decide +kernel)⟩
def m_X11_image : sw_M := (yX11_image, cX11_image, 3, some .int, 11)
theorem mk_X11_image : sw_okV m_X11_image := ⟨⟨sw_T_at 2130 (by decide +kernel), sw_T_at 138 (by decide +kernel), by decide, by decide +kernel, by decide +kernel⟩, sw_T_at 2128 (by decide +kernel), sw_T_at 2129 (by decide +kernel)⟩
def m_X11_octet : sw_M := (yX11_octet, cX11_octet, 2, some .int, 11)
theorem mk_X11_octet : sw_okV m_X11_octet := ⟨⟨sw_T_at 2146 (by decide +kernel), sw_T_at 138 (by decide +kernel), by decide, by decide +kernel, by decide +kernel⟩, sw_T_at 2144 (by decide +kernel), sw_T_at 2145 (by decide +kernel)⟩
def m_X11_twoAt : sw_M := (yX11_twoAt, cX11_twoAt, 2, some .int, 11)
theorem mk_X11_twoAt : sw_okV m_X11_twoAt := ⟨⟨sw_T_at 2158 (by decide +kernel), sw_T_at 138 (by decide +kernel), by decide, by decide +kernel, by decide +kernel⟩, sw_T_at 2157 (by decide +kernel), sw_T_at 124 (by decide +kernel)⟩
def m_X11_isSheepTold : sw_M := (yX11_isSheepTold, cX11_isSheepTold, 3, some .boolean, 11)
theorem mk_X11_isSheepTold : sw_okV m_X11_isSheepTold := ⟨⟨sw_T_at 2162 (by decide +kernel), sw_T_at 138 (by decide +kernel), by decide, by decide +kernel, by decide +kernel⟩, sw_T_at 2161 (by decide +kernel), sw_T_at 125 (by decide +kernel)⟩
def m_X11_isImage : sw_M := (yX11_isImage, cX11_isImage, 5, some .boolean, 11)
theorem mk_X11_isImage : sw_okV m_X11_isImage := ⟨⟨sw_T_at 2154 (by decide +kernel), sw_T_at 138 (by decide +kernel), by decide, by decide +kernel, by decide +kernel⟩, sw_T_at 2153 (by decide +kernel), sw_T_at 123 (by decide +kernel)⟩
def m_X11_on : sw_M := (yX11_on, cX11_on, 7, some .boolean, 11)
theorem mk_X11_on : sw_okV m_X11_on := ⟨⟨sw_T_at 2150 (by decide +kernel), sw_T_at 138 (by decide +kernel), by decide, by decide +kernel, by decide +kernel⟩, sw_T_at 2148 (by decide +kernel), sw_T_at 2149 (by decide +kernel)⟩
def m_X11_status : sw_M := (yX11_status, cX11_status, 2, some .int, 11)
theorem mk_X11_status : sw_okV m_X11_status := ⟨⟨sw_T_at 2166 (by decide +kernel), sw_T_at 138 (by decide +kernel), by decide, by decide +kernel, by decide +kernel⟩, sw_T_at 2164 (by decide +kernel), sw_T_at 2165 (by decide +kernel)⟩
def m_J6_bitCount_0f7a4 : sw_M := (yJ6_bitCount_0f7a4, cJ6_bitCount_0f7a4, 1, some .int, 12)
theorem mk_J6_bitCount_0f7a4 : sw_okS m_J6_bitCount_0f7a4 := ⟨⟨sw_T_at 820 (by decide +kernel), sw_T_at 145 (by decide +kernel), by decide, by decide +kernel, by decide +kernel⟩, sw_T_at 819 (by decide +kernel)⟩
def m_J9_floorDiv_7cf53 : sw_M := (yJ9_floorDiv_7cf53, cJ9_floorDiv_7cf53, 3, some .int, 13)
theorem mk_J9_floorDiv_7cf53 : sw_okS m_J9_floorDiv_7cf53 := ⟨⟨sw_T_at 902 (by decide +kernel), sw_T_at 139 (by decide +kernel), by decide, by decide +kernel, by decide +kernel⟩, sw_T_at 901 (by decide +kernel)⟩
def m_J9_max_7cf53 : sw_M := (yJ9_max_7cf53, cJ9_max_7cf53, 2, some .int, 13)
theorem mk_J9_max_7cf53 : sw_okS m_J9_max_7cf53 := ⟨⟨sw_T_at 906 (by decide +kernel), sw_T_at 139 (by decide +kernel), by decide, by decide +kernel, by decide +kernel⟩, sw_T_at 905 (by decide +kernel)⟩
def m_J9_max_f86c9 : sw_M := (yJ9_max_f86c9, cJ9_max_f86c9, 4, some .long, 13)
theorem mk_J9_max_f86c9 : sw_okS m_J9_max_f86c9 := ⟨⟨sw_T_at 1208 (by decide +kernel), sw_T_at 139 (by decide +kernel), by decide, by decide +kernel, by decide +kernel⟩, sw_T_at 1207 (by decide +kernel)⟩
def m_J9_min_7cf53 : sw_M := (yJ9_min_7cf53, cJ9_min_7cf53, 2, some .int, 13)
theorem mk_J9_min_7cf53 : sw_okS m_J9_min_7cf53 := ⟨⟨sw_T_at 632 (by decide +kernel), sw_T_at 139 (by decide +kernel), by decide, by decide +kernel, by decide +kernel⟩, sw_T_at 631 (by decide +kernel)⟩
def m_J9_min_f86c9 : sw_M := (yJ9_min_f86c9, cJ9_min_f86c9, 4, some .long, 13)
theorem mk_J9_min_f86c9 : sw_okS m_J9_min_f86c9 := ⟨⟨sw_T_at 1211 (by decide +kernel), sw_T_at 139 (by decide +kernel), by decide, by decide +kernel, by decide +kernel⟩, sw_T_at 1210 (by decide +kernel)⟩
def m_J7_fill_d0a16 : sw_M := (yJ7_fill_d0a16, cJ7_fill_d0a16, 5, none, 14)
theorem mk_J7_fill_d0a16 : sw_okS m_J7_fill_d0a16 := ⟨⟨sw_T_at 1071 (by decide +kernel), sw_T_at 144 (by decide +kernel), by decide, by decide +kernel, by decide +kernel⟩, sw_T_at 1070 (by decide +kernel)⟩
def m_J7_fill_53178 : sw_M := (yJ7_fill_53178, cJ7_fill_53178, 4, none, 14)
theorem mk_J7_fill_53178 : sw_okS m_J7_fill_53178 := ⟨⟨sw_T_at 805 (by decide +kernel), sw_T_at 144 (by decide +kernel), by decide, by decide +kernel, by decide +kernel⟩, sw_T_at 804 (by decide +kernel)⟩
theorem ln_10_94 : Cond.methodLink (sw_nm 10) 94 yX10_refuse ∈ sw_T := sw_T_at 601 (by decide +kernel)
theorem ln_10_98 : Cond.methodLink (sw_nm 10) 98 yX10_putBytes ∈ sw_T := sw_T_at 605 (by decide +kernel)
theorem ln_10_102 : Cond.methodLink (sw_nm 10) 102 yX10_takeTape ∈ sw_T := sw_T_at 617 (by decide +kernel)
theorem ln_10_106 : Cond.methodLink (sw_nm 10) 106 yX3_readUpland ∈ sw_T := sw_T_at 621 (by decide +kernel)
theorem ln_10_113 : Cond.methodLink (sw_nm 10) 113 yX8_begin ∈ sw_T := sw_T_at 799 (by decide +kernel)
theorem ln_10_117 : Cond.methodLink (sw_nm 10) 117 yX4_clear ∈ sw_T := sw_T_at 806 (by decide +kernel)
theorem ln_10_147 : Cond.methodLink (sw_nm 10) 147 yJ6_bitCount_0f7a4 ∈ sw_T := sw_T_at 818 (by decide +kernel)
theorem ln_10_155 : Cond.methodLink (sw_nm 10) 155 yX8_allMiles ∈ sw_T := sw_T_at 824 (by decide +kernel)
theorem ln_10_164 : Cond.methodLink (sw_nm 10) 164 yX10_isField ∈ sw_T := sw_T_at 832 (by decide +kernel)
theorem ln_10_171 : Cond.methodLink (sw_nm 10) 171 yX10_isSheep ∈ sw_T := sw_T_at 836 (by decide +kernel)
theorem ln_10_180 : Cond.methodLink (sw_nm 10) 180 yX10_isGap ∈ sw_T := sw_T_at 848 (by decide +kernel)
theorem ln_10_213 : Cond.methodLink (sw_nm 10) 213 yX2_choice ∈ sw_T := sw_T_at 864 (by decide +kernel)
theorem ln_10_217 : Cond.methodLink (sw_nm 10) 217 yX2_worthOf ∈ sw_T := sw_T_at 923 (by decide +kernel)
theorem ln_10_220 : Cond.methodLink (sw_nm 10) 220 yX8_keptPart ∈ sw_T := sw_T_at 933 (by decide +kernel)
theorem ln_10_224 : Cond.methodLink (sw_nm 10) 224 yX10_canCome ∈ sw_T := sw_T_at 941 (by decide +kernel)
theorem ln_10_228 : Cond.methodLink (sw_nm 10) 228 yX1_look ∈ sw_T := sw_T_at 945 (by decide +kernel)
theorem ln_10_232 : Cond.methodLink (sw_nm 10) 232 yX1_daysToHome ∈ sw_T := sw_T_at 968 (by decide +kernel)
theorem ln_10_235 : Cond.methodLink (sw_nm 10) 235 yX1_fewestChanges ∈ sw_T := sw_T_at 981 (by decide +kernel)
theorem ln_10_239 : Cond.methodLink (sw_nm 10) 239 yX1_bestRumour ∈ sw_T := sw_T_at 1006 (by decide +kernel)
theorem ln_10_242 : Cond.methodLink (sw_nm 10) 242 yX1_fewestMiles ∈ sw_T := sw_T_at 1014 (by decide +kernel)
theorem ln_10_245 : Cond.methodLink (sw_nm 10) 245 yX1_bestWait ∈ sw_T := sw_T_at 1027 (by decide +kernel)
theorem ln_10_248 : Cond.methodLink (sw_nm 10) 248 yX1_leastCoat ∈ sw_T := sw_T_at 1036 (by decide +kernel)
theorem ln_10_251 : Cond.methodLink (sw_nm 10) 251 yX1_leastWatch ∈ sw_T := sw_T_at 1048 (by decide +kernel)
theorem ln_10_256 : Cond.methodLink (sw_nm 10) 256 yX1_countWays ∈ sw_T := sw_T_at 1065 (by decide +kernel)
theorem ln_10_260 : Cond.methodLink (sw_nm 10) 260 yX1_takeFelt ∈ sw_T := sw_T_at 1080 (by decide +kernel)
theorem ln_10_264 : Cond.methodLink (sw_nm 10) 264 yX1_fillCrimps ∈ sw_T := sw_T_at 1088 (by decide +kernel)
theorem ln_10_267 : Cond.methodLink (sw_nm 10) 267 yX1_curiousBits ∈ sw_T := sw_T_at 1092 (by decide +kernel)
theorem ln_10_270 : Cond.methodLink (sw_nm 10) 270 yX1_telling ∈ sw_T := sw_T_at 1104 (by decide +kernel)
theorem ln_10_273 : Cond.methodLink (sw_nm 10) 273 yX4_remember ∈ sw_T := sw_T_at 1117 (by decide +kernel)
theorem ln_10_278 : Cond.methodLink (sw_nm 10) 278 yJ9_min_7cf53 ∈ sw_T := sw_T_at 1127 (by decide +kernel)
theorem ln_10_283 : Cond.methodLink (sw_nm 10) 283 yX2_leads ∈ sw_T := sw_T_at 1132 (by decide +kernel)
theorem ln_10_287 : Cond.methodLink (sw_nm 10) 287 yX2_passThrough ∈ sw_T := sw_T_at 1136 (by decide +kernel)
theorem ln_10_291 : Cond.methodLink (sw_nm 10) 291 yX2_passDay ∈ sw_T := sw_T_at 1149 (by decide +kernel)
theorem ln_10_295 : Cond.methodLink (sw_nm 10) 295 yX10_stormComes ∈ sw_T := sw_T_at 1162 (by decide +kernel)
theorem ln_10_299 : Cond.methodLink (sw_nm 10) 299 yX4_restore ∈ sw_T := sw_T_at 1177 (by decide +kernel)
theorem ln_10_302 : Cond.methodLink (sw_nm 10) 302 yX3_readQuestion ∈ sw_T := sw_T_at 1189 (by decide +kernel)
theorem ln_10_306 : Cond.methodLink (sw_nm 10) 306 yX2_answer ∈ sw_T := sw_T_at 1193 (by decide +kernel)
theorem ln_10_310 : Cond.methodLink (sw_nm 10) 310 yX5_write ∈ sw_T := sw_T_at 1216 (by decide +kernel)
theorem ln_10_320 : Cond.methodLink (sw_nm 10) 320 yX5_read ∈ sw_T := sw_T_at 1235 (by decide +kernel)
theorem ln_10_324 : Cond.methodLink (sw_nm 10) 324 yX8_copyFrom ∈ sw_T := sw_T_at 1244 (by decide +kernel)
theorem ln_10_327 : Cond.methodLink (sw_nm 10) 327 yX10_draw ∈ sw_T := sw_T_at 1166 (by decide +kernel)
theorem ln_1_45 : Cond.methodLink (sw_nm 1) 45 yX8_copyOne ∈ sw_T := sw_T_at 949 (by decide +kernel)
theorem ln_1_51 : Cond.methodLink (sw_nm 1) 51 yX2_goOn ∈ sw_T := sw_T_at 956 (by decide +kernel)
theorem ln_1_61 : Cond.methodLink (sw_nm 1) 61 yJ9_min_7cf53 ∈ sw_T := sw_T_at 976 (by decide +kernel)
theorem ln_1_67 : Cond.methodLink (sw_nm 1) 67 yX1_daysAtMost ∈ sw_T := sw_T_at 972 (by decide +kernel)
theorem ln_1_86 : Cond.methodLink (sw_nm 1) 86 yX1_tryDays ∈ sw_T := sw_T_at 985 (by decide +kernel)
theorem ln_1_90 : Cond.methodLink (sw_nm 1) 90 yX1_isFewer ∈ sw_T := sw_T_at 989 (by decide +kernel)
theorem ln_1_97 : Cond.methodLink (sw_nm 1) 97 yX2_luring ∈ sw_T := sw_T_at 994 (by decide +kernel)
theorem ln_1_101 : Cond.methodLink (sw_nm 1) 101 yX2_mostLuring ∈ sw_T := sw_T_at 995 (by decide +kernel)
theorem ln_1_105 : Cond.methodLink (sw_nm 1) 105 yX1_tryThrough ∈ sw_T := sw_T_at 996 (by decide +kernel)
theorem ln_1_109 : Cond.methodLink (sw_nm 1) 109 yX9_beyond ∈ sw_T := sw_T_at 1000 (by decide +kernel)
theorem ln_1_121 : Cond.methodLink (sw_nm 1) 121 yX2_passThrough ∈ sw_T := sw_T_at 1001 (by decide +kernel)
theorem ln_1_124 : Cond.methodLink (sw_nm 1) 124 yJ6_bitCount_0f7a4 ∈ sw_T := sw_T_at 993 (by decide +kernel)
theorem ln_1_135 : Cond.methodLink (sw_nm 1) 135 yJ7_fill_53178 ∈ sw_T := sw_T_at 1018 (by decide +kernel)
theorem ln_1_153 : Cond.methodLink (sw_nm 1) 153 yX1_shorten ∈ sw_T := sw_T_at 1019 (by decide +kernel)
theorem ln_1_157 : Cond.methodLink (sw_nm 1) 157 yX2_worthOf ∈ sw_T := sw_T_at 1031 (by decide +kernel)
theorem ln_1_161 : Cond.methodLink (sw_nm 1) 161 yX1_milesOf ∈ sw_T := sw_T_at 1040 (by decide +kernel)
theorem ln_1_164 : Cond.methodLink (sw_nm 1) 164 yX1_fillNear ∈ sw_T := sw_T_at 1052 (by decide +kernel)
theorem ln_1_167 : Cond.methodLink (sw_nm 1) 167 yX1_watches ∈ sw_T := sw_T_at 1056 (by decide +kernel)
theorem ln_1_171 : Cond.methodLink (sw_nm 1) 171 yJ7_fill_d0a16 ∈ sw_T := sw_T_at 1069 (by decide +kernel)
theorem ln_1_174 : Cond.methodLink (sw_nm 1) 174 yX1_leadEnds ∈ sw_T := sw_T_at 1072 (by decide +kernel)
theorem ln_1_183 : Cond.methodLink (sw_nm 1) 183 yX1_curiousBy ∈ sw_T := sw_T_at 1096 (by decide +kernel)
theorem ln_1_186 : Cond.methodLink (sw_nm 1) 186 yX1_mostLeft ∈ sw_T := sw_T_at 1108 (by decide +kernel)
theorem ln_1_189 : Cond.methodLink (sw_nm 1) 189 yJ9_max_7cf53 ∈ sw_T := sw_T_at 1112 (by decide +kernel)
theorem ln_2_62 : Cond.methodLink (sw_nm 2) 62 yX9_beyond ∈ sw_T := sw_T_at 907 (by decide +kernel)
theorem ln_2_66 : Cond.methodLink (sw_nm 2) 66 yX2_luring ∈ sw_T := sw_T_at 868 (by decide +kernel)
theorem ln_2_70 : Cond.methodLink (sw_nm 2) 70 yX2_mostLuring ∈ sw_T := sw_T_at 915 (by decide +kernel)
theorem ln_2_74 : Cond.methodLink (sw_nm 2) 74 yX2_setSheep ∈ sw_T := sw_T_at 872 (by decide +kernel)
theorem ln_2_78 : Cond.methodLink (sw_nm 2) 78 yX2_setField ∈ sw_T := sw_T_at 876 (by decide +kernel)
theorem ln_2_82 : Cond.methodLink (sw_nm 2) 82 yX7_run ∈ sw_T := sw_T_at 880 (by decide +kernel)
theorem ln_2_89 : Cond.methodLink (sw_nm 2) 89 yX2_pullBy ∈ sw_T := sw_T_at 911 (by decide +kernel)
theorem ln_2_96 : Cond.methodLink (sw_nm 2) 96 yJ9_min_7cf53 ∈ sw_T := sw_T_at 927 (by decide +kernel)
theorem ln_2_104 : Cond.methodLink (sw_nm 2) 104 yX2_choice ∈ sw_T := sw_T_at 1153 (by decide +kernel)
theorem ln_2_108 : Cond.methodLink (sw_nm 2) 108 yX2_passThrough ∈ sw_T := sw_T_at 960 (by decide +kernel)
theorem ln_2_111 : Cond.methodLink (sw_nm 2) 111 yX8_keep ∈ sw_T := sw_T_at 1154 (by decide +kernel)
theorem ln_2_115 : Cond.methodLink (sw_nm 2) 115 yJ9_max_7cf53 ∈ sw_T := sw_T_at 928 (by decide +kernel)
theorem ln_2_120 : Cond.methodLink (sw_nm 2) 120 yX2_questionOf ∈ sw_T := sw_T_at 1198 (by decide +kernel)
theorem ln_2_124 : Cond.methodLink (sw_nm 2) 124 yJ9_max_f86c9 ∈ sw_T := sw_T_at 1206 (by decide +kernel)
theorem ln_2_127 : Cond.methodLink (sw_nm 2) 127 yJ9_min_f86c9 ∈ sw_T := sw_T_at 1209 (by decide +kernel)
theorem ln_2_140 : Cond.methodLink (sw_nm 2) 140 yX7_pop ∈ sw_T := sw_T_at 1202 (by decide +kernel)
theorem ln_2_147 : Cond.methodLink (sw_nm 2) 147 yX7_push ∈ sw_T := sw_T_at 1203 (by decide +kernel)
theorem ln_2_151 : Cond.methodLink (sw_nm 2) 151 yX2_leads ∈ sw_T := sw_T_at 1204 (by decide +kernel)
theorem ln_2_155 : Cond.methodLink (sw_nm 2) 155 yX7_step ∈ sw_T := sw_T_at 1205 (by decide +kernel)
theorem ln_3_30 : Cond.methodLink (sw_nm 3) 30 yX9_clear ∈ sw_T := sw_T_at 625 (by decide +kernel)
theorem ln_3_33 : Cond.methodLink (sw_nm 3) 33 yX6_open ∈ sw_T := sw_T_at 626 (by decide +kernel)
theorem ln_3_48 : Cond.methodLink (sw_nm 3) 48 yX6_fail ∈ sw_T := sw_T_at 698 (by decide +kernel)
theorem ln_3_52 : Cond.methodLink (sw_nm 3) 52 yX3_statement ∈ sw_T := sw_T_at 702 (by decide +kernel)
theorem ln_3_56 : Cond.methodLink (sw_nm 3) 56 yX6_expect ∈ sw_T := sw_T_at 728 (by decide +kernel)
theorem ln_3_65 : Cond.methodLink (sw_nm 3) 65 yX6_advance ∈ sw_T := sw_T_at 710 (by decide +kernel)
theorem ln_3_68 : Cond.methodLink (sw_nm 3) 68 yX3_test ∈ sw_T := sw_T_at 780 (by decide +kernel)
theorem ln_3_71 : Cond.methodLink (sw_nm 3) 71 yX3_sum ∈ sw_T := sw_T_at 756 (by decide +kernel)
theorem ln_3_74 : Cond.methodLink (sw_nm 3) 74 yX3_fieldStatement ∈ sw_T := sw_T_at 706 (by decide +kernel)
theorem ln_3_77 : Cond.methodLink (sw_nm 3) 77 yX3_gapStatement ∈ sw_T := sw_T_at 736 (by decide +kernel)
theorem ln_3_80 : Cond.methodLink (sw_nm 3) 80 yX3_shutStatement ∈ sw_T := sw_T_at 744 (by decide +kernel)
theorem ln_3_83 : Cond.methodLink (sw_nm 3) 83 yX3_sheepStatement ∈ sw_T := sw_T_at 748 (by decide +kernel)
theorem ln_3_86 : Cond.methodLink (sw_nm 3) 86 yX3_beginFormula ∈ sw_T := sw_T_at 752 (by decide +kernel)
theorem ln_3_89 : Cond.methodLink (sw_nm 3) 89 yX3_endFormula ∈ sw_T := sw_T_at 776 (by decide +kernel)
theorem ln_3_92 : Cond.methodLink (sw_nm 3) 92 yX3_stormStatement ∈ sw_T := sw_T_at 795 (by decide +kernel)
theorem ln_3_98 : Cond.methodLink (sw_nm 3) 98 yX3_newName ∈ sw_T := sw_T_at 711 (by decide +kernel)
theorem ln_3_102 : Cond.methodLink (sw_nm 3) 102 yX6_takeNumber ∈ sw_T := sw_T_at 732 (by decide +kernel)
theorem ln_3_116 : Cond.methodLink (sw_nm 3) 116 yX3_knownField ∈ sw_T := sw_T_at 740 (by decide +kernel)
theorem ln_3_156 : Cond.methodLink (sw_nm 3) 156 yX6_takeName ∈ sw_T := sw_T_at 715 (by decide +kernel)
theorem ln_3_159 : Cond.methodLink (sw_nm 3) 159 yX9_fieldNamed ∈ sw_T := sw_T_at 720 (by decide +kernel)
theorem ln_3_162 : Cond.methodLink (sw_nm 3) 162 yX9_sheepNamed ∈ sw_T := sw_T_at 724 (by decide +kernel)
theorem ln_3_168 : Cond.methodLink (sw_nm 3) 168 yX3_both ∈ sw_T := sw_T_at 784 (by decide +kernel)
theorem ln_3_171 : Cond.methodLink (sw_nm 3) 171 yX0_emit ∈ sw_T := sw_T_at 768 (by decide +kernel)
theorem ln_3_175 : Cond.methodLink (sw_nm 3) 175 yX3_fact ∈ sw_T := sw_T_at 788 (by decide +kernel)
theorem ln_3_178 : Cond.methodLink (sw_nm 3) 178 yX3_opens ∈ sw_T := sw_T_at 769 (by decide +kernel)
theorem ln_3_181 : Cond.methodLink (sw_nm 3) 181 yX3_signCode ∈ sw_T := sw_T_at 792 (by decide +kernel)
theorem ln_3_184 : Cond.methodLink (sw_nm 3) 184 yX3_product ∈ sw_T := sw_T_at 760 (by decide +kernel)
theorem ln_3_187 : Cond.methodLink (sw_nm 3) 187 yX3_part ∈ sw_T := sw_T_at 764 (by decide +kernel)
theorem ln_3_190 : Cond.methodLink (sw_nm 3) 190 yX3_variableOf ∈ sw_T := sw_T_at 773 (by decide +kernel)
theorem ln_4_25 : Cond.methodLink (sw_nm 4) 25 yX8_copyFrom ∈ sw_T := sw_T_at 1121 (by decide +kernel)
theorem ln_4_29 : Cond.methodLink (sw_nm 4) 29 yJ9_min_7cf53 ∈ sw_T := sw_T_at 1125 (by decide +kernel)
theorem ln_5_24 : Cond.methodLink (sw_nm 5) 24 yX5_put ∈ sw_T := sw_T_at 1220 (by decide +kernel)
theorem ln_5_61 : Cond.methodLink (sw_nm 5) 61 yX5_checkOf ∈ sw_T := sw_T_at 1224 (by decide +kernel)
theorem ln_5_72 : Cond.methodLink (sw_nm 5) 72 yX5_take ∈ sw_T := sw_T_at 1239 (by decide +kernel)
theorem ln_6_22 : Cond.methodLink (sw_nm 6) 22 yJ9_min_7cf53 ∈ sw_T := sw_T_at 630 (by decide +kernel)
theorem ln_6_37 : Cond.methodLink (sw_nm 6) 37 yX6_advance ∈ sw_T := sw_T_at 633 (by decide +kernel)
theorem ln_6_43 : Cond.methodLink (sw_nm 6) 43 yX6_isLetter ∈ sw_T := sw_T_at 637 (by decide +kernel)
theorem ln_6_47 : Cond.methodLink (sw_nm 6) 47 yX6_wordKind ∈ sw_T := sw_T_at 641 (by decide +kernel)
theorem ln_6_51 : Cond.methodLink (sw_nm 6) 51 yX6_isDigit ∈ sw_T := sw_T_at 694 (by decide +kernel)
theorem ln_6_64 : Cond.methodLink (sw_nm 6) 64 yX6_fail ∈ sw_T := sw_T_at 719 (by decide +kernel)
theorem ln_7_39 : Cond.methodLink (sw_nm 7) 39 yX7_step ∈ sw_T := sw_T_at 884 (by decide +kernel)
theorem ln_7_43 : Cond.methodLink (sw_nm 7) 43 yX7_push ∈ sw_T := sw_T_at 888 (by decide +kernel)
theorem ln_7_47 : Cond.methodLink (sw_nm 7) 47 yX7_pop ∈ sw_T := sw_T_at 896 (by decide +kernel)
theorem ln_7_51 : Cond.methodLink (sw_nm 7) 51 yJ9_floorDiv_7cf53 ∈ sw_T := sw_T_at 900 (by decide +kernel)
theorem ln_7_57 : Cond.methodLink (sw_nm 7) 57 yJ9_min_7cf53 ∈ sw_T := sw_T_at 903 (by decide +kernel)
theorem ln_7_60 : Cond.methodLink (sw_nm 7) 60 yJ9_max_7cf53 ∈ sw_T := sw_T_at 904 (by decide +kernel)
theorem ln_8_54 : Cond.methodLink (sw_nm 8) 54 yJ7_fill_53178 ∈ sw_T := sw_T_at 803 (by decide +kernel)
theorem ln_9_49 : Cond.methodLink (sw_nm 9) 49 yX9_clear ∈ sw_T := sw_T_at 216 (by decide +kernel)
theorem ln_9_77 : Cond.methodLink (sw_nm 9) 77 yX0_emit ∈ sw_T := sw_T_at 220 (by decide +kernel)
theorem ln_9_81 : Cond.methodLink (sw_nm 9) 81 yX9_setFormula ∈ sw_T := sw_T_at 224 (by decide +kernel)
theorem ln_11_260 : Cond.methodLink (sw_nm 11) 260 yX11_look ∈ sw_T := sw_T_at 1587 (by decide +kernel)
theorem ln_11_264 : Cond.methodLink (sw_nm 11) 264 yX11_isLetter ∈ sw_T := sw_T_at 1607 (by decide +kernel)
theorem ln_11_271 : Cond.methodLink (sw_nm 11) 271 yX11_isHere ∈ sw_T := sw_T_at 1603 (by decide +kernel)
theorem ln_11_275 : Cond.methodLink (sw_nm 11) 275 yX11_takes ∈ sw_T := sw_T_at 1599 (by decide +kernel)
theorem ln_11_278 : Cond.methodLink (sw_nm 11) 278 yX11_fail ∈ sw_T := sw_T_at 1595 (by decide +kernel)
theorem ln_11_282 : Cond.methodLink (sw_nm 11) 282 yX11_takesSign ∈ sw_T := sw_T_at 1708 (by decide +kernel)
theorem ln_11_285 : Cond.methodLink (sw_nm 11) 285 yX11_isDigit ∈ sw_T := sw_T_at 1640 (by decide +kernel)
theorem ln_11_291 : Cond.methodLink (sw_nm 11) 291 yX11_isIn ∈ sw_T := sw_T_at 1643 (by decide +kernel)
theorem ln_11_295 : Cond.methodLink (sw_nm 11) 295 yX11_isOwnHere ∈ sw_T := sw_T_at 1626 (by decide +kernel)
theorem ln_11_313 : Cond.methodLink (sw_nm 11) 313 yX11_name ∈ sw_T := sw_T_at 1622 (by decide +kernel)
theorem ln_11_317 : Cond.methodLink (sw_nm 11) 317 yX11_isFull ∈ sw_T := sw_T_at 1614 (by decide +kernel)
theorem ln_11_321 : Cond.methodLink (sw_nm 11) 321 yX11_newName ∈ sw_T := sw_T_at 1618 (by decide +kernel)
theorem ln_11_324 : Cond.methodLink (sw_nm 11) 324 yX11_asks ∈ sw_T := sw_T_at 1632 (by decide +kernel)
theorem ln_11_328 : Cond.methodLink (sw_nm 11) 328 yX11_number ∈ sw_T := sw_T_at 1636 (by decide +kernel)
theorem ln_11_332 : Cond.methodLink (sw_nm 11) 332 yX11_fieldNamed ∈ sw_T := sw_T_at 1650 (by decide +kernel)
theorem ln_11_348 : Cond.methodLink (sw_nm 11) 348 yX11_qTest ∈ sw_T := sw_T_at 1666 (by decide +kernel)
theorem ln_11_351 : Cond.methodLink (sw_nm 11) 351 yX11_qSums ∈ sw_T := sw_T_at 1682 (by decide +kernel)
theorem ln_11_360 : Cond.methodLink (sw_nm 11) 360 yX11_fieldTold ∈ sw_T := sw_T_at 1610 (by decide +kernel)
theorem ln_11_364 : Cond.methodLink (sw_nm 11) 364 yX11_gapTold ∈ sw_T := sw_T_at 1646 (by decide +kernel)
theorem ln_11_367 : Cond.methodLink (sw_nm 11) 367 yX11_shutTold ∈ sw_T := sw_T_at 1654 (by decide +kernel)
theorem ln_11_370 : Cond.methodLink (sw_nm 11) 370 yX11_sheepTold ∈ sw_T := sw_T_at 1658 (by decide +kernel)
theorem ln_11_373 : Cond.methodLink (sw_nm 11) 373 yX11_codesTold ∈ sw_T := sw_T_at 1662 (by decide +kernel)
theorem ln_11_376 : Cond.methodLink (sw_nm 11) 376 yX11_asksSign ∈ sw_T := sw_T_at 1704 (by decide +kernel)
theorem ln_11_379 : Cond.methodLink (sw_nm 11) 379 yX11_statementTold ∈ sw_T := sw_T_at 1591 (by decide +kernel)
theorem ln_11_385 : Cond.methodLink (sw_nm 11) 385 yX11_stands ∈ sw_T := sw_T_at 1755 (by decide +kernel)
theorem ln_11_394 : Cond.methodLink (sw_nm 11) 394 yX11_fieldMany ∈ sw_T := sw_T_at 1767 (by decide +kernel)
theorem ln_11_397 : Cond.methodLink (sw_nm 11) 397 yX11_sheepMany ∈ sw_T := sw_T_at 1775 (by decide +kernel)
theorem ln_11_400 : Cond.methodLink (sw_nm 11) 400 yX11_gapMany ∈ sw_T := sw_T_at 1771 (by decide +kernel)
theorem ln_11_406 : Cond.methodLink (sw_nm 11) 406 yX11_isOpen ∈ sw_T := sw_T_at 1783 (by decide +kernel)
theorem ln_11_409 : Cond.methodLink (sw_nm 11) 409 yX11_fieldOf ∈ sw_T := sw_T_at 1825 (by decide +kernel)
theorem ln_11_412 : Cond.methodLink (sw_nm 11) 412 yX11_acrossFrom ∈ sw_T := sw_T_at 1897 (by decide +kernel)
theorem ln_11_421 : Cond.methodLink (sw_nm 11) 421 yX11_qPuts ∈ sw_T := sw_T_at 1873 (by decide +kernel)
theorem ln_11_425 : Cond.methodLink (sw_nm 11) 425 yX11_qPartOf ∈ sw_T := sw_T_at 1877 (by decide +kernel)
theorem ln_11_429 : Cond.methodLink (sw_nm 11) 429 yX11_qJoins ∈ sw_T := sw_T_at 1881 (by decide +kernel)
theorem ln_11_432 : Cond.methodLink (sw_nm 11) 432 yX11_beyond ∈ sw_T := sw_T_at 1893 (by decide +kernel)
theorem ln_11_438 : Cond.methodLink (sw_nm 11) 438 yX11_milesOf ∈ sw_T := sw_T_at 1905 (by decide +kernel)
theorem ln_11_444 : Cond.methodLink (sw_nm 11) 444 yX11_isTold ∈ sw_T := sw_T_at 1865 (by decide +kernel)
theorem ln_11_447 : Cond.methodLink (sw_nm 11) 447 yX11_codesTell ∈ sw_T := sw_T_at 1869 (by decide +kernel)
theorem ln_11_450 : Cond.methodLink (sw_nm 11) 450 yX11_seenOf ∈ sw_T := sw_T_at 1849 (by decide +kernel)
theorem ln_11_453 : Cond.methodLink (sw_nm 11) 453 yX11_woolOf ∈ sw_T := sw_T_at 1791 (by decide +kernel)
theorem ln_11_458 : Cond.methodLink (sw_nm 11) 458 yX11_doesStay ∈ sw_T := sw_T_at 1861 (by decide +kernel)
theorem ln_11_461 : Cond.methodLink (sw_nm 11) 461 yX11_luresOf ∈ sw_T := sw_T_at 1901 (by decide +kernel)
theorem ln_11_464 : Cond.methodLink (sw_nm 11) 464 yX11_least ∈ sw_T := sw_T_at 1947 (by decide +kernel)
theorem ln_11_467 : Cond.methodLink (sw_nm 11) 467 yX11_crimpOf ∈ sw_T := sw_T_at 1833 (by decide +kernel)
theorem ln_11_474 : Cond.methodLink (sw_nm 11) 474 yX11_gapFor ∈ sw_T := sw_T_at 1857 (by decide +kernel)
theorem ln_11_477 : Cond.methodLink (sw_nm 11) 477 yX11_goesThrough ∈ sw_T := sw_T_at 1943 (by decide +kernel)
theorem ln_11_483 : Cond.methodLink (sw_nm 11) 483 yX11_isKept ∈ sw_T := sw_T_at 1950 (by decide +kernel)
theorem ln_11_486 : Cond.methodLink (sw_nm 11) 486 yX11_sheepGoes ∈ sw_T := sw_T_at 1939 (by decide +kernel)
theorem ln_11_489 : Cond.methodLink (sw_nm 11) 489 yX11_dayGoes ∈ sw_T := sw_T_at 1985 (by decide +kernel)
theorem ln_11_492 : Cond.methodLink (sw_nm 11) 492 yX11_triesAnew ∈ sw_T := sw_T_at 1958 (by decide +kernel)
theorem ln_11_495 : Cond.methodLink (sw_nm 11) 495 yX11_openMany ∈ sw_T := sw_T_at 1779 (by decide +kernel)
theorem ln_11_498 : Cond.methodLink (sw_nm 11) 498 yX11_woolAll ∈ sw_T := sw_T_at 1787 (by decide +kernel)
theorem ln_11_503 : Cond.methodLink (sw_nm 11) 503 yX11_isField ∈ sw_T := sw_T_at 1804 (by decide +kernel)
theorem ln_11_507 : Cond.methodLink (sw_nm 11) 507 yX11_isGap ∈ sw_T := sw_T_at 1812 (by decide +kernel)
theorem ln_11_512 : Cond.methodLink (sw_nm 11) 512 yX11_isSheep ∈ sw_T := sw_T_at 1821 (by decide +kernel)
theorem ln_11_515 : Cond.methodLink (sw_nm 11) 515 yX11_curiousOf ∈ sw_T := sw_T_at 1829 (by decide +kernel)
theorem ln_11_518 : Cond.methodLink (sw_nm 11) 518 yX11_ledOf ∈ sw_T := sw_T_at 1837 (by decide +kernel)
theorem ln_11_521 : Cond.methodLink (sw_nm 11) 521 yX11_homeOf ∈ sw_T := sw_T_at 1841 (by decide +kernel)
theorem ln_11_524 : Cond.methodLink (sw_nm 11) 524 yX11_worthOf ∈ sw_T := sw_T_at 1913 (by decide +kernel)
theorem ln_11_527 : Cond.methodLink (sw_nm 11) 527 yX11_isAhead ∈ sw_T := sw_T_at 1926 (by decide +kernel)
theorem ln_11_532 : Cond.methodLink (sw_nm 11) 532 yX11_putsAside ∈ sw_T := sw_T_at 1931 (by decide +kernel)
theorem ln_11_535 : Cond.methodLink (sw_nm 11) 535 yX11_oneGoes ∈ sw_T := sw_T_at 1935 (by decide +kernel)
theorem ln_11_538 : Cond.methodLink (sw_nm 11) 538 yX11_takesBack ∈ sw_T := sw_T_at 1954 (by decide +kernel)
theorem ln_11_541 : Cond.methodLink (sw_nm 11) 541 yX11_bits ∈ sw_T := sw_T_at 1970 (by decide +kernel)
theorem ln_11_544 : Cond.methodLink (sw_nm 11) 544 yX11_changes ∈ sw_T := sw_T_at 1973 (by decide +kernel)
theorem ln_11_547 : Cond.methodLink (sw_nm 11) 547 yX11_daysGo ∈ sw_T := sw_T_at 1981 (by decide +kernel)
theorem ln_11_550 : Cond.methodLink (sw_nm 11) 550 yX11_isCheaper ∈ sw_T := sw_T_at 1993 (by decide +kernel)
theorem ln_11_553 : Cond.methodLink (sw_nm 11) 553 yX11_milesBy ∈ sw_T := sw_T_at 2005 (by decide +kernel)
theorem ln_11_556 : Cond.methodLink (sw_nm 11) 556 yX11_watchers ∈ sw_T := sw_T_at 2013 (by decide +kernel)
theorem ln_11_565 : Cond.methodLink (sw_nm 11) 565 yX11_waysGo ∈ sw_T := sw_T_at 2024 (by decide +kernel)
theorem ln_11_568 : Cond.methodLink (sw_nm 11) 568 yX11_refuses ∈ sw_T := sw_T_at 2032 (by decide +kernel)
theorem ln_11_571 : Cond.methodLink (sw_nm 11) 571 yX11_isAsFelt ∈ sw_T := sw_T_at 2044 (by decide +kernel)
theorem ln_11_574 : Cond.methodLink (sw_nm 11) 574 yX11_curiousSet ∈ sw_T := sw_T_at 2040 (by decide +kernel)
theorem ln_11_577 : Cond.methodLink (sw_nm 11) 577 yX11_mostAlike ∈ sw_T := sw_T_at 2052 (by decide +kernel)
theorem ln_11_583 : Cond.methodLink (sw_nm 11) 583 yX11_keeps ∈ sw_T := sw_T_at 2064 (by decide +kernel)
theorem ln_11_587 : Cond.methodLink (sw_nm 11) 587 yX11_isRefused ∈ sw_T := sw_T_at 2073 (by decide +kernel)
theorem ln_11_600 : Cond.methodLink (sw_nm 11) 600 yX11_drawOf ∈ sw_T := sw_T_at 2098 (by decide +kernel)
theorem ln_11_603 : Cond.methodLink (sw_nm 11) 603 yX11_qCode ∈ sw_T := sw_T_at 1678 (by decide +kernel)
theorem ln_11_606 : Cond.methodLink (sw_nm 11) 606 yX11_qIsBracket ∈ sw_T := sw_T_at 1732 (by decide +kernel)
theorem ln_11_609 : Cond.methodLink (sw_nm 11) 609 yX11_qDrops ∈ sw_T := sw_T_at 1720 (by decide +kernel)
theorem ln_11_612 : Cond.methodLink (sw_nm 11) 612 yX11_qWordHere ∈ sw_T := sw_T_at 1694 (by decide +kernel)
theorem ln_11_615 : Cond.methodLink (sw_nm 11) 615 yX11_isAllowed ∈ sw_T := sw_T_at 1698 (by decide +kernel)
theorem ln_11_618 : Cond.methodLink (sw_nm 11) 618 yX11_qWordOf ∈ sw_T := sw_T_at 1690 (by decide +kernel)
theorem ln_11_621 : Cond.methodLink (sw_nm 11) 621 yX11_qOpens ∈ sw_T := sw_T_at 1670 (by decide +kernel)
theorem ln_11_624 : Cond.methodLink (sw_nm 11) 624 yX11_qAsksWord ∈ sw_T := sw_T_at 1712 (by decide +kernel)
theorem ln_11_627 : Cond.methodLink (sw_nm 11) 627 yX11_qEndsPart ∈ sw_T := sw_T_at 1716 (by decide +kernel)
theorem ln_11_630 : Cond.methodLink (sw_nm 11) 630 yX11_qBracket ∈ sw_T := sw_T_at 1728 (by decide +kernel)
theorem ln_11_633 : Cond.methodLink (sw_nm 11) 633 yX11_qDropsToBracket ∈ sw_T := sw_T_at 1735 (by decide +kernel)
theorem ln_11_636 : Cond.methodLink (sw_nm 11) 636 yX11_qIsOn ∈ sw_T := sw_T_at 1739 (by decide +kernel)
theorem ln_11_639 : Cond.methodLink (sw_nm 11) 639 yX11_qPartTold ∈ sw_T := sw_T_at 1686 (by decide +kernel)
theorem ln_11_642 : Cond.methodLink (sw_nm 11) 642 yX11_qGoesOn ∈ sw_T := sw_T_at 1724 (by decide +kernel)
theorem ln_11_645 : Cond.methodLink (sw_nm 11) 645 yX11_qFact ∈ sw_T := sw_T_at 1674 (by decide +kernel)
theorem ln_11_648 : Cond.methodLink (sw_nm 11) 648 yX11_qDropsNots ∈ sw_T := sw_T_at 1743 (by decide +kernel)
theorem ln_11_651 : Cond.methodLink (sw_nm 11) 651 yX11_qGoesOnTest ∈ sw_T := sw_T_at 1747 (by decide +kernel)
theorem ln_11_654 : Cond.methodLink (sw_nm 11) 654 yX11_qHasSquare ∈ sw_T := sw_T_at 1751 (by decide +kernel)
theorem ln_11_661 : Cond.methodLink (sw_nm 11) 661 yX11_qClip ∈ sw_T := sw_T_at 1885 (by decide +kernel)
theorem ln_11_665 : Cond.methodLink (sw_nm 11) 665 yX11_qFloor ∈ sw_T := sw_T_at 1890 (by decide +kernel)
theorem ln_11_669 : Cond.methodLink (sw_nm 11) 669 yX11_qOf ∈ sw_T := sw_T_at 2119 (by decide +kernel)
theorem ln_11_681 : Cond.methodLink (sw_nm 11) 681 yX11_qKind ∈ sw_T := sw_T_at 2110 (by decide +kernel)
theorem ln_11_684 : Cond.methodLink (sw_nm 11) 684 yX11_qTold ∈ sw_T := sw_T_at 2115 (by decide +kernel)
theorem ln_11_688 : Cond.methodLink (sw_nm 11) 688 yX11_qTakes ∈ sw_T := sw_T_at 2123 (by decide +kernel)
theorem ln_11_695 : Cond.methodLink (sw_nm 11) 695 yX11_writes ∈ sw_T := sw_T_at 2135 (by decide +kernel)
theorem ln_11_698 : Cond.methodLink (sw_nm 11) 698 yX11_writesTwo ∈ sw_T := sw_T_at 2131 (by decide +kernel)
theorem ln_11_702 : Cond.methodLink (sw_nm 11) 702 yX11_checked ∈ sw_T := sw_T_at 2140 (by decide +kernel)
theorem ln_11_706 : Cond.methodLink (sw_nm 11) 706 yX11_twoAt ∈ sw_T := sw_T_at 2155 (by decide +kernel)
theorem ln_11_709 : Cond.methodLink (sw_nm 11) 709 yX11_isSheepTold ∈ sw_T := sw_T_at 2159 (by decide +kernel)
theorem ln_11_712 : Cond.methodLink (sw_nm 11) 712 yX11_isImage ∈ sw_T := sw_T_at 2151 (by decide +kernel)
end
section
/-! StrayWoolModel.look()I -/
theorem B_X11_look_0 {E : sw_E} {d : Nat} {σ : sw_St} {Q : Option Value → sw_St → Prop} (kt : (σ.1 0 3) ≤ (σ.1 0 2) → sw_W E sw_gM m_X11_look d 52 [(0, .ref 0)] [] σ Q) (kf : ¬ (σ.1 0 3) ≤ (σ.1 0 2) → sw_W E sw_gM m_X11_look d 11 [(0, .ref 0)] [] σ Q) : sw_W E sw_gM m_X11_look d 0 [(0, .ref 0)] [] σ Q :=
  sw_go [((.aload 0, 0, 0, 0), 1), ((.getfield 0, 11002, 0, 0), 4), ((.aload 0, 0, 0, 0), 5), ((.getfield 0, 11003, 0, 0), 8), ((.if_icmp .ge 0, 52, 0, 0), 11)] 0 _ _ _ (by decide +kernel) (And.intro rfl (And.intro rfl (And.intro (fun h => sw_pick [0] rfl (kt h)) (fun h => sw_pick [0] rfl (kf h)))))
theorem B_X11_look_11 {E : sw_E} {d : Nat} {σ : sw_St} {Q : Option Value → sw_St → Prop} (o0_ : vp_in (σ.1 0 2) 1600) (kt : (σ.1 1 ((σ.1 0 2).toNatClampNeg)) = 10 → sw_W E sw_gM m_X11_look d 39 [(0, .ref 0)] [] σ Q) (kf : ¬ (σ.1 1 ((σ.1 0 2).toNatClampNeg)) = 10 → sw_W E sw_gM m_X11_look d 25 [(0, .ref 0)] [] σ Q) : sw_W E sw_gM m_X11_look d 11 [(0, .ref 0)] [] σ Q :=
  sw_go [((.aload 0, 0, 0, 0), 12), ((.getfield 0, 11000, 0, 0), 15), ((.aload 0, 0, 0, 0), 16), ((.getfield 0, 11002, 0, 0), 19), ((.iaload, 0, 0, 0), 20), ((.iconst 0, 0, 10, 0), 22), ((.if_icmp .eq 0, 39, 0, 0), 25)] 11 _ _ _ (by decide +kernel) (And.intro rfl (And.intro rfl (And.intro rfl (And.intro o0_ (And.intro (fun h => sw_pick [0] rfl (kt h)) (fun h => sw_pick [0] rfl (kf h)))))))
theorem B_X11_look_25 {E : sw_E} {d : Nat} {σ : sw_St} {Q : Option Value → sw_St → Prop} (o0_ : vp_in (σ.1 0 2) 1600) (kt : ¬ (σ.1 1 ((σ.1 0 2).toNatClampNeg)) = 32 → sw_W E sw_gM m_X11_look d 52 [(0, .ref 0)] [] σ Q) (kf : (σ.1 1 ((σ.1 0 2).toNatClampNeg)) = 32 → sw_W E sw_gM m_X11_look d 39 [(0, .ref 0)] [] σ Q) : sw_W E sw_gM m_X11_look d 25 [(0, .ref 0)] [] σ Q :=
  sw_go [((.aload 0, 0, 0, 0), 26), ((.getfield 0, 11000, 0, 0), 29), ((.aload 0, 0, 0, 0), 30), ((.getfield 0, 11002, 0, 0), 33), ((.iaload, 0, 0, 0), 34), ((.iconst 0, 0, 32, 0), 36), ((.if_icmp .ne 0, 52, 0, 0), 39)] 25 _ _ _ (by decide +kernel) (And.intro rfl (And.intro rfl (And.intro rfl (And.intro o0_ (And.intro (fun h => sw_pick [0] rfl (kt h)) (fun h => sw_pick [0] rfl (kf h)))))))
theorem B_X11_look_39 {E : sw_E} {d : Nat} {σ : sw_St} {Q : Option Value → sw_St → Prop} (k : sw_W E sw_gM m_X11_look d 0 [(0, .ref 0)] [] (sw_uI σ 0 2 ((σ.1 0 2) + 1)) Q) : sw_W E sw_gM m_X11_look d 39 [(0, .ref 0)] [] σ Q :=
  sw_go [((.aload 0, 0, 0, 0), 40), ((.dup, 0, 0, 0), 41), ((.getfield 0, 11002, 0, 0), 44), ((.iconst 0, 0, 1, 0), 45), ((.iadd, 0, 0, 0), 46), ((.putfield 0, 11002, 0, 0), 49), ((.goto 0, 0, 0, 0), 0)] 39 _ _ _ (by decide +kernel) (And.intro rfl (And.intro rfl (And.intro rfl (And.intro trivial (sw_pick [0] rfl k)))))
theorem B_X11_look_52 {E : sw_E} {d : Nat} {σ : sw_St} {Q : Option Value → sw_St → Prop} (kt : (σ.1 0 3) ≤ (σ.1 0 2) → sw_W E sw_gM m_X11_look d 75 [] [] σ Q) (kf : ¬ (σ.1 0 3) ≤ (σ.1 0 2) → sw_W E sw_gM m_X11_look d 63 [(0, .ref 0)] [] σ Q) : sw_W E sw_gM m_X11_look d 52 [(0, .ref 0)] [] σ Q :=
  sw_go [((.aload 0, 0, 0, 0), 53), ((.getfield 0, 11002, 0, 0), 56), ((.aload 0, 0, 0, 0), 57), ((.getfield 0, 11003, 0, 0), 60), ((.if_icmp .ge 0, 75, 0, 0), 63)] 52 _ _ _ (by decide +kernel) (And.intro rfl (And.intro rfl (And.intro (fun h => sw_pick [] rfl (kt h)) (fun h => sw_pick [0] rfl (kf h)))))
theorem B_X11_look_63 {E : sw_E} {d : Nat} {σ : sw_St} {Q : Option Value → sw_St → Prop} (o0_ : vp_in (σ.1 0 2) 1600) (k : sw_W E sw_gM m_X11_look d 76 [] [.int (σ.1 1 ((σ.1 0 2).toNatClampNeg))] σ Q) : sw_W E sw_gM m_X11_look d 63 [(0, .ref 0)] [] σ Q :=
  sw_go [((.aload 0, 0, 0, 0), 64), ((.getfield 0, 11000, 0, 0), 67), ((.aload 0, 0, 0, 0), 68), ((.getfield 0, 11002, 0, 0), 71), ((.iaload, 0, 0, 0), 72), ((.goto 0, 76, 0, 0), 76)] 63 _ _ _ (by decide +kernel) (And.intro rfl (And.intro rfl (And.intro rfl (And.intro o0_ (sw_pick [] rfl k)))))
theorem B_X11_look_75 {E : sw_E} {d : Nat} {σ : sw_St} {Q : Option Value → sw_St → Prop} (k : sw_W E sw_gM m_X11_look d 76 [] [.int (-1)] σ Q) : sw_W E sw_gM m_X11_look d 75 [] [] σ Q :=
  sw_go [((.iconst 0, 0, (-1), 0), 76)] 75 _ _ _ (by decide +kernel) (sw_pick [] rfl k)
theorem B_X11_look_76 {E : sw_E} {d : Nat} {σ : sw_St} {Q : Option Value → sw_St → Prop} {sx0 : Int32} (hq : Q (some (.int sx0)) σ) : sw_W E sw_gM m_X11_look d 76 [] [.int sx0] σ Q :=
  sw_go [] 76 _ _ _ (by decide +kernel) (so_ireturn (by decide +kernel) rfl rfl hq)
/-! StrayWoolModel.isHere([C)Z -/
theorem B_X11_isHere_0 {E : sw_E} {d : Nat} {σ : sw_St} {Q : Option Value → sw_St → Prop} {o1 : Nat} (kt : ¬ (σ.1 0 5) = 0 → sw_W E sw_gM m_X11_isHere d 28 [] [] σ Q) (kf : (σ.1 0 5) = 0 → sw_W E sw_gM m_X11_isHere d 7 [(0, .ref 0), (1, .ref o1)] [] σ Q) : sw_W E sw_gM m_X11_isHere d 0 [(0, .ref 0), (1, .ref o1)] [] σ Q :=
  sw_go [((.aload 0, 0, 0, 0), 1), ((.getfield 0, 11005, 0, 0), 4), ((.ifCond .ne 0, 28, 0, 0), 7)] 0 _ _ _ (by decide +kernel) (And.intro rfl (And.intro (fun h => sw_pick [] rfl (kt h)) (fun h => sw_pick [0, 1] rfl (kf h))))
theorem B_X11_isHere_7 {E : sw_E} {d : Nat} {σ : sw_St} {Q : Option Value → sw_St → Prop} {o1 : Nat} {d1 : Nat} {Q1 : Int32 → sw_St → Prop} (hM : sw_KI E sw_gM m_X11_look d1 [.ref 0] σ Q1) (hdd : d1 < d) (k : ∀ (v : Int32) (s : sw_St), Q1 v s → sw_W E sw_gM m_X11_isHere d 11 [(0, .ref 0), (1, .ref o1)] (.int v :: []) s Q) : sw_W E sw_gM m_X11_isHere d 7 [(0, .ref 0), (1, .ref o1)] [] σ Q :=
  sw_go [((.aload 0, 0, 0, 0), 8)] 7 _ _ _ (by decide +kernel) (so_callV (N := m_X11_look) (As := []) (st := []) (n := 0) (by decide +kernel) ln_11_260 mk_X11_look rfl (by decide) (by decide +kernel) rfl rfl (by decide) hdd hM (fun r s h => by obtain ⟨v, rfl, h⟩ := h; exact sw_pick [0, 1] rfl (k v s h)))
theorem B_X11_isHere_11 {E : sw_E} {d : Nat} {σ : sw_St} {Q : Option Value → sw_St → Prop} {o1 : Nat} {sx0 : Int32} {d1 : Nat} {Q1 : Int32 → sw_St → Prop} (hM : sw_KI E sw_gM m_X11_isLetter d1 [.int sx0] σ Q1) (hdd : d1 < d) (k : ∀ (v : Int32) (s : sw_St), Q1 v s → sw_W E sw_gM m_X11_isHere d 14 [(0, .ref 0), (1, .ref o1)] (.int v :: []) s Q) : sw_W E sw_gM m_X11_isHere d 11 [(0, .ref 0), (1, .ref o1)] [.int sx0] σ Q :=
  sw_go [] 11 _ _ _ (by decide +kernel) (so_callS (N := m_X11_isLetter) (As := [.int sx0]) (st := []) (n := 1) (by decide +kernel) ln_11_264 mk_X11_isLetter (by decide +kernel) rfl (by decide) hdd hM (fun r s h => by obtain ⟨v, rfl, h⟩ := h; exact sw_pick [0, 1] rfl (k v s h)))
theorem B_X11_isHere_14 {E : sw_E} {d : Nat} {σ : sw_St} {Q : Option Value → sw_St → Prop} {o1 : Nat} {sx0 : Int32} (kt : sx0 = 0 → sw_W E sw_gM m_X11_isHere d 28 [] [] σ Q) (kf : ¬ sx0 = 0 → sw_W E sw_gM m_X11_isHere d 17 [(0, .ref 0), (1, .ref o1)] [] σ Q) : sw_W E sw_gM m_X11_isHere d 14 [(0, .ref 0), (1, .ref o1)] [.int sx0] σ Q :=
  sw_go [((.ifCond .eq 0, 28, 0, 0), 17)] 14 _ _ _ (by decide +kernel) (And.intro (fun h => sw_pick [] rfl (kt h)) (fun h => sw_pick [0, 1] rfl (kf h)))
theorem B_X11_isHere_17 {E : sw_E} {d : Nat} {σ : sw_St} {Q : Option Value → sw_St → Prop} {o1 : Nat} (kt : ¬ (σ.1 0 2) = (σ.1 0 4) → sw_W E sw_gM m_X11_isHere d 30 [(0, .ref 0), (1, .ref o1)] [] σ Q) (kf : (σ.1 0 2) = (σ.1 0 4) → sw_W E sw_gM m_X11_isHere d 28 [] [] σ Q) : sw_W E sw_gM m_X11_isHere d 17 [(0, .ref 0), (1, .ref o1)] [] σ Q :=
  sw_go [((.aload 0, 0, 0, 0), 18), ((.getfield 0, 11002, 0, 0), 21), ((.aload 0, 0, 0, 0), 22), ((.getfield 0, 11004, 0, 0), 25), ((.if_icmp .ne 0, 30, 0, 0), 28)] 17 _ _ _ (by decide +kernel) (And.intro rfl (And.intro rfl (And.intro (fun h => sw_pick [0, 1] rfl (kt h)) (fun h => sw_pick [] rfl (kf h)))))
theorem B_X11_isHere_28 {E : sw_E} {d : Nat} {σ : sw_St} {Q : Option Value → sw_St → Prop} (hq : Q (some (.int 0)) σ) : sw_W E sw_gM m_X11_isHere d 28 [] [] σ Q :=
  sw_go [((.iconst 0, 0, 0, 0), 29)] 28 _ _ _ (by decide +kernel) (so_ireturn (by decide +kernel) rfl rfl hq)
theorem B_X11_isHere_30 {E : sw_E} {d : Nat} {σ : sw_St} {Q : Option Value → sw_St → Prop} {o1 : Nat} (k : sw_W E sw_gM m_X11_isHere d 35 [(0, .ref 0), (1, .ref o1), (2, .int (σ.1 0 2))] [] σ Q) : sw_W E sw_gM m_X11_isHere d 30 [(0, .ref 0), (1, .ref o1)] [] σ Q :=
  sw_go [((.aload 0, 0, 0, 0), 31), ((.getfield 0, 11002, 0, 0), 34), ((.istore 0, 2, 0, 0), 35)] 30 _ _ _ (by decide +kernel) (And.intro rfl (sw_pick [1, 2, 0] rfl k))
theorem B_X11_isHere_35 {E : sw_E} {d : Nat} {σ : sw_St} {Q : Option Value → sw_St → Prop} {o1 : Nat} {x2 : Int32} (kt : (σ.1 0 3) ≤ x2 → sw_W E sw_gM m_X11_isHere d 61 [(0, .ref 0), (1, .ref o1), (2, .int x2)] [] σ Q) (kf : ¬ (σ.1 0 3) ≤ x2 → sw_W E sw_gM m_X11_isHere d 43 [(0, .ref 0), (1, .ref o1), (2, .int x2)] [] σ Q) : sw_W E sw_gM m_X11_isHere d 35 [(0, .ref 0), (1, .ref o1), (2, .int x2)] [] σ Q :=
  sw_go [((.iload 0, 2, 0, 0), 36), ((.aload 0, 0, 0, 0), 37), ((.getfield 0, 11003, 0, 0), 40), ((.if_icmp .ge 0, 61, 0, 0), 43)] 35 _ _ _ (by decide +kernel) (And.intro rfl (And.intro (fun h => sw_pick [0, 1, 2] rfl (kt h)) (fun h => sw_pick [0, 1, 2] rfl (kf h))))
theorem B_X11_isHere_43 {E : sw_E} {d : Nat} {σ : sw_St} {Q : Option Value → sw_St → Prop} {o1 : Nat} {x2 : Int32} {d1 : Nat} {Q1 : Int32 → sw_St → Prop} (o0_ : vp_in x2 1600) (hM : sw_KI E sw_gM m_X11_isLetter d1 [.int (σ.1 1 x2.toNatClampNeg)] σ Q1) (hdd : d1 < d) (k : ∀ (v : Int32) (s : sw_St), Q1 v s → sw_W E sw_gM m_X11_isHere d 52 [(0, .ref 0), (1, .ref o1), (2, .int x2)] (.int v :: []) s Q) : sw_W E sw_gM m_X11_isHere d 43 [(0, .ref 0), (1, .ref o1), (2, .int x2)] [] σ Q :=
  sw_go [((.aload 0, 0, 0, 0), 44), ((.getfield 0, 11000, 0, 0), 47), ((.iload 0, 2, 0, 0), 48), ((.iaload, 0, 0, 0), 49)] 43 _ _ _ (by decide +kernel) (And.intro rfl (And.intro rfl (And.intro o0_ (so_callS (N := m_X11_isLetter) (As := [.int (σ.1 1 x2.toNatClampNeg)]) (st := []) (n := 1) (by decide +kernel) ln_11_264 mk_X11_isLetter (by decide +kernel) rfl (by decide) hdd hM (fun r s h => by obtain ⟨v, rfl, h⟩ := h; exact sw_pick [0, 1, 2] rfl (k v s h))))))
theorem B_X11_isHere_52 {E : sw_E} {d : Nat} {σ : sw_St} {Q : Option Value → sw_St → Prop} {o1 : Nat} {x2 : Int32} {sx0 : Int32} (kt : sx0 = 0 → sw_W E sw_gM m_X11_isHere d 61 [(0, .ref 0), (1, .ref o1), (2, .int x2)] [] σ Q) (kf : ¬ sx0 = 0 → sw_W E sw_gM m_X11_isHere d 55 [(0, .ref 0), (1, .ref o1), (2, .int x2)] [] σ Q) : sw_W E sw_gM m_X11_isHere d 52 [(0, .ref 0), (1, .ref o1), (2, .int x2)] [.int sx0] σ Q :=
  sw_go [((.ifCond .eq 0, 61, 0, 0), 55)] 52 _ _ _ (by decide +kernel) (And.intro (fun h => sw_pick [0, 1, 2] rfl (kt h)) (fun h => sw_pick [0, 1, 2] rfl (kf h)))
theorem B_X11_isHere_55 {E : sw_E} {d : Nat} {σ : sw_St} {Q : Option Value → sw_St → Prop} {o1 : Nat} {x2 : Int32} (k : sw_W E sw_gM m_X11_isHere d 35 [(0, .ref 0), (1, .ref o1), (2, .int (x2 + 1))] [] σ Q) : sw_W E sw_gM m_X11_isHere d 55 [(0, .ref 0), (1, .ref o1), (2, .int x2)] [] σ Q :=
  sw_go [((.iinc 0 0, 2, 1, 0), 58), ((.goto 0, 35, 0, 0), 35)] 55 _ _ _ (by decide +kernel) (sw_pick [1, 2, 0] rfl k)
theorem B_X11_isHere_61 {E : sw_E} {d : Nat} {σ : sw_St} {Q : Option Value → sw_St → Prop} {o1 : Nat} {x2 : Int32} (o0_ : (sw_isA sw_gM o1 0 || sw_isA sw_gM o1 1 || sw_isA sw_gM o1 2 || sw_isA sw_gM o1 3) = true) (kt : (x2 - (σ.1 0 2)) = (nI (sw_ln sw_gM o1)) → sw_W E sw_gM m_X11_isHere d 74 [(0, .ref 0), (1, .ref o1)] [] σ Q) (kf : ¬ (x2 - (σ.1 0 2)) = (nI (sw_ln sw_gM o1)) → sw_W E sw_gM m_X11_isHere d 72 [] [] σ Q) : sw_W E sw_gM m_X11_isHere d 61 [(0, .ref 0), (1, .ref o1), (2, .int x2)] [] σ Q :=
  sw_go [((.iload 0, 2, 0, 0), 62), ((.aload 0, 0, 0, 0), 63), ((.getfield 0, 11002, 0, 0), 66), ((.isub, 0, 0, 0), 67), ((.aload 0, 1, 0, 0), 68), ((.arraylength, 0, 0, 0), 69), ((.if_icmp .eq 0, 74, 0, 0), 72)] 61 _ _ _ (by decide +kernel) (And.intro rfl (And.intro o0_ (And.intro (fun h => sw_pick [0, 1] rfl (kt h)) (fun h => sw_pick [] rfl (kf h)))))
theorem B_X11_isHere_72 {E : sw_E} {d : Nat} {σ : sw_St} {Q : Option Value → sw_St → Prop} (hq : Q (some (.int 0)) σ) : sw_W E sw_gM m_X11_isHere d 72 [] [] σ Q :=
  sw_go [((.iconst 0, 0, 0, 0), 73)] 72 _ _ _ (by decide +kernel) (so_ireturn (by decide +kernel) rfl rfl hq)
theorem B_X11_isHere_74 {E : sw_E} {d : Nat} {σ : sw_St} {Q : Option Value → sw_St → Prop} {o1 : Nat} (k : sw_W E sw_gM m_X11_isHere d 76 [(0, .ref 0), (1, .ref o1), (3, .int 0)] [] σ Q) : sw_W E sw_gM m_X11_isHere d 74 [(0, .ref 0), (1, .ref o1)] [] σ Q :=
  sw_go [((.iconst 0, 0, 0, 0), 75), ((.istore 0, 3, 0, 0), 76)] 74 _ _ _ (by decide +kernel) (sw_pick [1, 2, 0] rfl k)
theorem B_X11_isHere_76 {E : sw_E} {d : Nat} {σ : sw_St} {Q : Option Value → sw_St → Prop} {o1 : Nat} {x3 : Int32} (o0_ : (sw_isA sw_gM o1 0 || sw_isA sw_gM o1 1 || sw_isA sw_gM o1 2 || sw_isA sw_gM o1 3) = true) (kt : (nI (sw_ln sw_gM o1)) ≤ x3 → sw_W E sw_gM m_X11_isHere d 107 [] [] σ Q) (kf : ¬ (nI (sw_ln sw_gM o1)) ≤ x3 → sw_W E sw_gM m_X11_isHere d 82 [(0, .ref 0), (1, .ref o1), (3, .int x3)] [] σ Q) : sw_W E sw_gM m_X11_isHere d 76 [(0, .ref 0), (1, .ref o1), (3, .int x3)] [] σ Q :=
  sw_go [((.iload 0, 3, 0, 0), 77), ((.aload 0, 1, 0, 0), 78), ((.arraylength, 0, 0, 0), 79), ((.if_icmp .ge 0, 107, 0, 0), 82)] 76 _ _ _ (by decide +kernel) (And.intro o0_ (And.intro (fun h => sw_pick [] rfl (kt h)) (fun h => sw_pick [0, 1, 2] rfl (kf h))))
theorem B_X11_isHere_82 {E : sw_E} {d : Nat} {σ : sw_St} {Q : Option Value → sw_St → Prop} {o1 : Nat} {x3 : Int32} (o0_ : vp_in ((σ.1 0 2) + x3) 1600) (o1_ : sw_isA sw_gM o1 2 = true) (o2_ : vp_in x3 (sw_ln sw_gM o1)) (kt : (σ.1 1 (((σ.1 0 2) + x3).toNatClampNeg)) = (σ.1 o1 x3.toNatClampNeg) → sw_W E sw_gM m_X11_isHere d 101 [(0, .ref 0), (1, .ref o1), (3, .int x3)] [] σ Q) (kf : ¬ (σ.1 1 (((σ.1 0 2) + x3).toNatClampNeg)) = (σ.1 o1 x3.toNatClampNeg) → sw_W E sw_gM m_X11_isHere d 99 [] [] σ Q) : sw_W E sw_gM m_X11_isHere d 82 [(0, .ref 0), (1, .ref o1), (3, .int x3)] [] σ Q :=
  sw_go [((.aload 0, 0, 0, 0), 83), ((.getfield 0, 11000, 0, 0), 86), ((.aload 0, 0, 0, 0), 87), ((.getfield 0, 11002, 0, 0), 90), ((.iload 0, 3, 0, 0), 91), ((.iadd, 0, 0, 0), 92), ((.iaload, 0, 0, 0), 93), ((.aload 0, 1, 0, 0), 94), ((.iload 0, 3, 0, 0), 95), ((.caload, 0, 0, 0), 96), ((.if_icmp .eq 0, 101, 0, 0), 99)] 82 _ _ _ (by decide +kernel) (And.intro rfl (And.intro rfl (And.intro rfl (And.intro o0_ (And.intro o1_ (And.intro o2_ (And.intro (fun h => sw_pick [0, 1, 2] rfl (kt h)) (fun h => sw_pick [] rfl (kf h)))))))))
theorem B_X11_isHere_99 {E : sw_E} {d : Nat} {σ : sw_St} {Q : Option Value → sw_St → Prop} (hq : Q (some (.int 0)) σ) : sw_W E sw_gM m_X11_isHere d 99 [] [] σ Q :=
  sw_go [((.iconst 0, 0, 0, 0), 100)] 99 _ _ _ (by decide +kernel) (so_ireturn (by decide +kernel) rfl rfl hq)
theorem B_X11_isHere_101 {E : sw_E} {d : Nat} {σ : sw_St} {Q : Option Value → sw_St → Prop} {o1 : Nat} {x3 : Int32} (k : sw_W E sw_gM m_X11_isHere d 76 [(0, .ref 0), (1, .ref o1), (3, .int (x3 + 1))] [] σ Q) : sw_W E sw_gM m_X11_isHere d 101 [(0, .ref 0), (1, .ref o1), (3, .int x3)] [] σ Q :=
  sw_go [((.iinc 0 0, 3, 1, 0), 104), ((.goto 0, 76, 0, 0), 76)] 101 _ _ _ (by decide +kernel) (sw_pick [1, 2, 0] rfl k)
theorem B_X11_isHere_107 {E : sw_E} {d : Nat} {σ : sw_St} {Q : Option Value → sw_St → Prop} (hq : Q (some (.int 1)) σ) : sw_W E sw_gM m_X11_isHere d 107 [] [] σ Q :=
  sw_go [((.iconst 0, 0, 1, 0), 108)] 107 _ _ _ (by decide +kernel) (so_ireturn (by decide +kernel) rfl rfl hq)
/-! StrayWoolModel.takes([C)Z -/
theorem B_X11_takes_0 {E : sw_E} {d : Nat} {σ : sw_St} {Q : Option Value → sw_St → Prop} {o1 : Nat} {d1 : Nat} {Q1 : Int32 → sw_St → Prop} (hM : sw_KI E sw_gM m_X11_isHere d1 [.ref 0, .ref o1] σ Q1) (hdd : d1 < d) (k : ∀ (v : Int32) (s : sw_St), Q1 v s → sw_W E sw_gM m_X11_takes d 5 [(0, .ref 0), (1, .ref o1)] (.int v :: []) s Q) : sw_W E sw_gM m_X11_takes d 0 [(0, .ref 0), (1, .ref o1)] [] σ Q :=
  sw_go [((.aload 0, 0, 0, 0), 1), ((.aload 0, 1, 0, 0), 2)] 0 _ _ _ (by decide +kernel) (so_callV (N := m_X11_isHere) (As := [.ref o1]) (st := []) (n := 1) (by decide +kernel) ln_11_271 mk_X11_isHere rfl (by decide) (by decide +kernel) rfl rfl (by decide) hdd hM (fun r s h => by obtain ⟨v, rfl, h⟩ := h; exact sw_pick [0, 1] rfl (k v s h)))
theorem B_X11_takes_5 {E : sw_E} {d : Nat} {σ : sw_St} {Q : Option Value → sw_St → Prop} {o1 : Nat} {sx0 : Int32} (kt : ¬ sx0 = 0 → sw_W E sw_gM m_X11_takes d 10 [(0, .ref 0), (1, .ref o1)] [] σ Q) (kf : sx0 = 0 → sw_W E sw_gM m_X11_takes d 8 [] [] σ Q) : sw_W E sw_gM m_X11_takes d 5 [(0, .ref 0), (1, .ref o1)] [.int sx0] σ Q :=
  sw_go [((.ifCond .ne 0, 10, 0, 0), 8)] 5 _ _ _ (by decide +kernel) (And.intro (fun h => sw_pick [0, 1] rfl (kt h)) (fun h => sw_pick [] rfl (kf h)))
theorem B_X11_takes_8 {E : sw_E} {d : Nat} {σ : sw_St} {Q : Option Value → sw_St → Prop} (hq : Q (some (.int 0)) σ) : sw_W E sw_gM m_X11_takes d 8 [] [] σ Q :=
  sw_go [((.iconst 0, 0, 0, 0), 9)] 8 _ _ _ (by decide +kernel) (so_ireturn (by decide +kernel) rfl rfl hq)
theorem B_X11_takes_10 {E : sw_E} {d : Nat} {σ : sw_St} {Q : Option Value → sw_St → Prop} {o1 : Nat} (o0_ : (sw_isA sw_gM o1 0 || sw_isA sw_gM o1 1 || sw_isA sw_gM o1 2 || sw_isA sw_gM o1 3) = true) (hq : Q (some (.int 1)) (sw_uI (sw_uI σ 0 2 ((σ.1 0 2) + (nI (sw_ln sw_gM o1)))) 0 4 ((σ.1 0 2) + (nI (sw_ln sw_gM o1))))) : sw_W E sw_gM m_X11_takes d 10 [(0, .ref 0), (1, .ref o1)] [] σ Q :=
  sw_go [((.aload 0, 0, 0, 0), 11), ((.dup, 0, 0, 0), 12), ((.getfield 0, 11002, 0, 0), 15), ((.aload 0, 1, 0, 0), 16), ((.arraylength, 0, 0, 0), 17), ((.iadd, 0, 0, 0), 18), ((.putfield 0, 11002, 0, 0), 21), ((.aload 0, 0, 0, 0), 22), ((.aload 0, 0, 0, 0), 23), ((.getfield 0, 11002, 0, 0), 26), ((.putfield 0, 11004, 0, 0), 29), ((.iconst 0, 0, 1, 0), 30)] 10 _ _ _ (by decide +kernel) (And.intro rfl (And.intro rfl (And.intro o0_ (And.intro rfl (And.intro trivial (And.intro rfl (And.intro rfl (And.intro trivial (so_ireturn (by decide +kernel) rfl rfl hq)))))))))
/-! StrayWoolModel.feed(IIIII)I -/
theorem B_X11_feed_0 {E : sw_E} {d : Nat} {σ : sw_St} {Q : Option Value → sw_St → Prop} {x1 : Int32} {x2 : Int32} {x3 : Int32} {x4 : Int32} {x5 : Int32} (kt : ((σ.1 0 1) + 20) ≤ 1600 → sw_W E sw_gM m_X11_feed d 25 [(0, .ref 0), (1, .int x1), (2, .int x2), (3, .int x3), (4, .int x4), (5, .int x5)] [] σ Q) (kf : ¬ ((σ.1 0 1) + 20) ≤ 1600 → sw_W E sw_gM m_X11_feed d 13 [(0, .ref 0)] [] σ Q) : sw_W E sw_gM m_X11_feed d 0 [(0, .ref 0), (1, .int x1), (2, .int x2), (3, .int x3), (4, .int x4), (5, .int x5)] [] σ Q :=
  sw_go [((.aload 0, 0, 0, 0), 1), ((.getfield 0, 11001, 0, 0), 4), ((.iconst 0, 0, 20, 0), 6), ((.iadd, 0, 0, 0), 7), ((.iconst 0, 0, 1600, 0), 10), ((.if_icmp .le 0, 25, 0, 0), 13)] 0 _ _ _ (by decide +kernel) (And.intro rfl (And.intro (fun h => sw_pick [0, 1, 2, 3, 4, 5] rfl (kt h)) (fun h => sw_pick [0] rfl (kf h))))
theorem B_X11_feed_13 {E : sw_E} {d : Nat} {σ : sw_St} {Q : Option Value → sw_St → Prop} (hq : Q (some (.int (-1))) (sw_uI σ 2 0 ((σ.1 2 0) + 1))) : sw_W E sw_gM m_X11_feed d 13 [(0, .ref 0)] [] σ Q :=
  sw_go [((.aload 0, 0, 0, 0), 14), ((.getfield 0, 11009, 0, 0), 17), ((.iconst 0, 0, 0, 0), 18), ((.dup2, 0, 0, 0), 19), ((.iaload, 0, 0, 0), 20), ((.iconst 0, 0, 1, 0), 21), ((.iadd, 0, 0, 0), 22), ((.iastore, 0, 0, 0), 23), ((.iconst 0, 0, (-1), 0), 24)] 13 _ _ _ (by decide +kernel) (And.intro rfl (And.intro rfl (And.intro rfl (And.intro rfl (And.intro (by unfold vp_in; decide) (And.intro rfl (And.intro (by unfold vp_in; decide) (so_ireturn (by decide +kernel) rfl rfl hq))))))))
theorem B_X11_feed_25 {E : sw_E} {d : Nat} {σ : sw_St} {Q : Option Value → sw_St → Prop} {x1 : Int32} {x2 : Int32} {x3 : Int32} {x4 : Int32} {x5 : Int32} (k : sw_W E sw_gM m_X11_feed d 28 [(0, .ref 0), (1, .int x1), (2, .int x2), (3, .int x3), (4, .int x4), (5, .int x5), (6, .int 0)] [] σ Q) : sw_W E sw_gM m_X11_feed d 25 [(0, .ref 0), (1, .int x1), (2, .int x2), (3, .int x3), (4, .int x4), (5, .int x5)] [] σ Q :=
  sw_go [((.iconst 0, 0, 0, 0), 26), ((.istore 0, 6, 0, 0), 28)] 25 _ _ _ (by decide +kernel) (sw_pick [1, 2, 3, 4, 5, 6, 0] rfl k)
theorem B_X11_feed_28 {E : sw_E} {d : Nat} {σ : sw_St} {Q : Option Value → sw_St → Prop} {x1 : Int32} {x2 : Int32} {x3 : Int32} {x4 : Int32} {x5 : Int32} {x6 : Int32} (kt : 20 ≤ x6 → sw_W E sw_gM m_X11_feed d 124 [(0, .ref 0)] [] σ Q) (kf : ¬ 20 ≤ x6 → sw_W E sw_gM m_X11_feed d 35 [(0, .ref 0), (1, .int x1), (2, .int x2), (3, .int x3), (4, .int x4), (5, .int x5), (6, .int x6)] [] σ Q) : sw_W E sw_gM m_X11_feed d 28 [(0, .ref 0), (1, .int x1), (2, .int x2), (3, .int x3), (4, .int x4), (5, .int x5), (6, .int x6)] [] σ Q :=
  sw_go [((.iload 0, 6, 0, 0), 30), ((.iconst 0, 0, 20, 0), 32), ((.if_icmp .ge 0, 124, 0, 0), 35)] 28 _ _ _ (by decide +kernel) (And.intro (fun h => sw_pick [0] rfl (kt h)) (fun h => sw_pick [0, 1, 2, 3, 4, 5, 6] rfl (kf h)))
theorem B_X11_feed_35 {E : sw_E} {d : Nat} {σ : sw_St} {Q : Option Value → sw_St → Prop} {x1 : Int32} {x2 : Int32} {x3 : Int32} {x4 : Int32} {x5 : Int32} {x6 : Int32} (kt : 4 ≤ x6 → sw_W E sw_gM m_X11_feed d 45 [(0, .ref 0), (1, .int x1), (2, .int x2), (3, .int x3), (4, .int x4), (5, .int x5), (6, .int x6)] [] σ Q) (kf : ¬ 4 ≤ x6 → sw_W E sw_gM m_X11_feed d 41 [(0, .ref 0), (1, .int x1), (2, .int x2), (3, .int x3), (4, .int x4), (5, .int x5), (6, .int x6)] [] σ Q) : sw_W E sw_gM m_X11_feed d 35 [(0, .ref 0), (1, .int x1), (2, .int x2), (3, .int x3), (4, .int x4), (5, .int x5), (6, .int x6)] [] σ Q :=
  sw_go [((.iload 0, 6, 0, 0), 37), ((.iconst 0, 0, 4, 0), 38), ((.if_icmp .ge 0, 45, 0, 0), 41)] 35 _ _ _ (by decide +kernel) (And.intro (fun h => sw_pick [0, 1, 2, 3, 4, 5, 6] rfl (kt h)) (fun h => sw_pick [0, 1, 2, 3, 4, 5, 6] rfl (kf h)))
theorem B_X11_feed_41 {E : sw_E} {d : Nat} {σ : sw_St} {Q : Option Value → sw_St → Prop} {x1 : Int32} {x2 : Int32} {x3 : Int32} {x4 : Int32} {x5 : Int32} {x6 : Int32} (k : sw_W E sw_gM m_X11_feed d 81 [(0, .ref 0), (1, .int x1), (2, .int x2), (3, .int x3), (4, .int x4), (5, .int x5), (6, .int x6)] [.int x1] σ Q) : sw_W E sw_gM m_X11_feed d 41 [(0, .ref 0), (1, .int x1), (2, .int x2), (3, .int x3), (4, .int x4), (5, .int x5), (6, .int x6)] [] σ Q :=
  sw_go [((.iload 0, 1, 0, 0), 42), ((.goto 0, 81, 0, 0), 81)] 41 _ _ _ (by decide +kernel) (sw_pick [0, 1, 2, 3, 4, 5, 6] rfl k)
theorem B_X11_feed_45 {E : sw_E} {d : Nat} {σ : sw_St} {Q : Option Value → sw_St → Prop} {x1 : Int32} {x2 : Int32} {x3 : Int32} {x4 : Int32} {x5 : Int32} {x6 : Int32} (kt : 8 ≤ x6 → sw_W E sw_gM m_X11_feed d 56 [(0, .ref 0), (1, .int x1), (2, .int x2), (3, .int x3), (4, .int x4), (5, .int x5), (6, .int x6)] [] σ Q) (kf : ¬ 8 ≤ x6 → sw_W E sw_gM m_X11_feed d 52 [(0, .ref 0), (1, .int x1), (2, .int x2), (3, .int x3), (4, .int x4), (5, .int x5), (6, .int x6)] [] σ Q) : sw_W E sw_gM m_X11_feed d 45 [(0, .ref 0), (1, .int x1), (2, .int x2), (3, .int x3), (4, .int x4), (5, .int x5), (6, .int x6)] [] σ Q :=
  sw_go [((.iload 0, 6, 0, 0), 47), ((.iconst 0, 0, 8, 0), 49), ((.if_icmp .ge 0, 56, 0, 0), 52)] 45 _ _ _ (by decide +kernel) (And.intro (fun h => sw_pick [0, 1, 2, 3, 4, 5, 6] rfl (kt h)) (fun h => sw_pick [0, 1, 2, 3, 4, 5, 6] rfl (kf h)))
theorem B_X11_feed_52 {E : sw_E} {d : Nat} {σ : sw_St} {Q : Option Value → sw_St → Prop} {x1 : Int32} {x2 : Int32} {x3 : Int32} {x4 : Int32} {x5 : Int32} {x6 : Int32} (k : sw_W E sw_gM m_X11_feed d 81 [(0, .ref 0), (1, .int x1), (2, .int x2), (3, .int x3), (4, .int x4), (5, .int x5), (6, .int x6)] [.int x2] σ Q) : sw_W E sw_gM m_X11_feed d 52 [(0, .ref 0), (1, .int x1), (2, .int x2), (3, .int x3), (4, .int x4), (5, .int x5), (6, .int x6)] [] σ Q :=
  sw_go [((.iload 0, 2, 0, 0), 53), ((.goto 0, 81, 0, 0), 81)] 52 _ _ _ (by decide +kernel) (sw_pick [0, 1, 2, 3, 4, 5, 6] rfl k)
theorem B_X11_feed_56 {E : sw_E} {d : Nat} {σ : sw_St} {Q : Option Value → sw_St → Prop} {x1 : Int32} {x2 : Int32} {x3 : Int32} {x4 : Int32} {x5 : Int32} {x6 : Int32} (kt : 12 ≤ x6 → sw_W E sw_gM m_X11_feed d 67 [(0, .ref 0), (1, .int x1), (2, .int x2), (3, .int x3), (4, .int x4), (5, .int x5), (6, .int x6)] [] σ Q) (kf : ¬ 12 ≤ x6 → sw_W E sw_gM m_X11_feed d 63 [(0, .ref 0), (1, .int x1), (2, .int x2), (3, .int x3), (4, .int x4), (5, .int x5), (6, .int x6)] [] σ Q) : sw_W E sw_gM m_X11_feed d 56 [(0, .ref 0), (1, .int x1), (2, .int x2), (3, .int x3), (4, .int x4), (5, .int x5), (6, .int x6)] [] σ Q :=
  sw_go [((.iload 0, 6, 0, 0), 58), ((.iconst 0, 0, 12, 0), 60), ((.if_icmp .ge 0, 67, 0, 0), 63)] 56 _ _ _ (by decide +kernel) (And.intro (fun h => sw_pick [0, 1, 2, 3, 4, 5, 6] rfl (kt h)) (fun h => sw_pick [0, 1, 2, 3, 4, 5, 6] rfl (kf h)))
theorem B_X11_feed_63 {E : sw_E} {d : Nat} {σ : sw_St} {Q : Option Value → sw_St → Prop} {x1 : Int32} {x2 : Int32} {x3 : Int32} {x4 : Int32} {x5 : Int32} {x6 : Int32} (k : sw_W E sw_gM m_X11_feed d 81 [(0, .ref 0), (1, .int x1), (2, .int x2), (3, .int x3), (4, .int x4), (5, .int x5), (6, .int x6)] [.int x3] σ Q) : sw_W E sw_gM m_X11_feed d 63 [(0, .ref 0), (1, .int x1), (2, .int x2), (3, .int x3), (4, .int x4), (5, .int x5), (6, .int x6)] [] σ Q :=
  sw_go [((.iload 0, 3, 0, 0), 64), ((.goto 0, 81, 0, 0), 81)] 63 _ _ _ (by decide +kernel) (sw_pick [0, 1, 2, 3, 4, 5, 6] rfl k)
theorem B_X11_feed_67 {E : sw_E} {d : Nat} {σ : sw_St} {Q : Option Value → sw_St → Prop} {x1 : Int32} {x2 : Int32} {x3 : Int32} {x4 : Int32} {x5 : Int32} {x6 : Int32} (kt : 16 ≤ x6 → sw_W E sw_gM m_X11_feed d 79 [(0, .ref 0), (1, .int x1), (2, .int x2), (3, .int x3), (4, .int x4), (5, .int x5), (6, .int x6)] [] σ Q) (kf : ¬ 16 ≤ x6 → sw_W E sw_gM m_X11_feed d 74 [(0, .ref 0), (1, .int x1), (2, .int x2), (3, .int x3), (4, .int x4), (5, .int x5), (6, .int x6)] [] σ Q) : sw_W E sw_gM m_X11_feed d 67 [(0, .ref 0), (1, .int x1), (2, .int x2), (3, .int x3), (4, .int x4), (5, .int x5), (6, .int x6)] [] σ Q :=
  sw_go [((.iload 0, 6, 0, 0), 69), ((.iconst 0, 0, 16, 0), 71), ((.if_icmp .ge 0, 79, 0, 0), 74)] 67 _ _ _ (by decide +kernel) (And.intro (fun h => sw_pick [0, 1, 2, 3, 4, 5, 6] rfl (kt h)) (fun h => sw_pick [0, 1, 2, 3, 4, 5, 6] rfl (kf h)))
theorem B_X11_feed_74 {E : sw_E} {d : Nat} {σ : sw_St} {Q : Option Value → sw_St → Prop} {x1 : Int32} {x2 : Int32} {x3 : Int32} {x4 : Int32} {x5 : Int32} {x6 : Int32} (k : sw_W E sw_gM m_X11_feed d 81 [(0, .ref 0), (1, .int x1), (2, .int x2), (3, .int x3), (4, .int x4), (5, .int x5), (6, .int x6)] [.int x4] σ Q) : sw_W E sw_gM m_X11_feed d 74 [(0, .ref 0), (1, .int x1), (2, .int x2), (3, .int x3), (4, .int x4), (5, .int x5), (6, .int x6)] [] σ Q :=
  sw_go [((.iload 0, 4, 0, 0), 76), ((.goto 0, 81, 0, 0), 81)] 74 _ _ _ (by decide +kernel) (sw_pick [0, 1, 2, 3, 4, 5, 6] rfl k)
theorem B_X11_feed_79 {E : sw_E} {d : Nat} {σ : sw_St} {Q : Option Value → sw_St → Prop} {x1 : Int32} {x2 : Int32} {x3 : Int32} {x4 : Int32} {x5 : Int32} {x6 : Int32} (k : sw_W E sw_gM m_X11_feed d 81 [(0, .ref 0), (1, .int x1), (2, .int x2), (3, .int x3), (4, .int x4), (5, .int x5), (6, .int x6)] [.int x5] σ Q) : sw_W E sw_gM m_X11_feed d 79 [(0, .ref 0), (1, .int x1), (2, .int x2), (3, .int x3), (4, .int x4), (5, .int x5), (6, .int x6)] [] σ Q :=
  sw_go [((.iload 0, 5, 0, 0), 81)] 79 _ _ _ (by decide +kernel) (sw_pick [0, 1, 2, 3, 4, 5, 6] rfl k)
theorem B_X11_feed_81 {E : sw_E} {d : Nat} {σ : sw_St} {Q : Option Value → sw_St → Prop} {x1 : Int32} {x2 : Int32} {x3 : Int32} {x4 : Int32} {x5 : Int32} {x6 : Int32} {sx0 : Int32} (o0_ : vp_in (σ.1 0 1) 1600) (k : sw_W E sw_gM m_X11_feed d 28 [(0, .ref 0), (1, .int x1), (2, .int x2), (3, .int x3), (4, .int x4), (5, .int x5), (6, .int (x6 + 1))] [] (sw_uI (sw_uI σ 1 ((σ.1 0 1).toNatClampNeg) ((sx0 >>> ((8 * (3 - (x6 - x6 / 4 * 4))) &&& 31)) &&& 255)) 0 1 ((σ.1 0 1) + 1)) Q) : sw_W E sw_gM m_X11_feed d 81 [(0, .ref 0), (1, .int x1), (2, .int x2), (3, .int x3), (4, .int x4), (5, .int x5), (6, .int x6)] [.int sx0] σ Q :=
  sw_go [((.istore 0, 7, 0, 0), 83), ((.aload 0, 0, 0, 0), 84), ((.getfield 0, 11000, 0, 0), 87), ((.aload 0, 0, 0, 0), 88), ((.getfield 0, 11001, 0, 0), 91), ((.iload 0, 7, 0, 0), 93), ((.iconst 0, 0, 8, 0), 95), ((.iconst 0, 0, 3, 0), 96), ((.iload 0, 6, 0, 0), 98), ((.iconst 0, 0, 4, 0), 99), ((.irem, 0, 0, 0), 100), ((.isub, 0, 0, 0), 101), ((.imul, 0, 0, 0), 102), ((.ishr, 0, 0, 0), 103), ((.iconst 0, 0, 255, 0), 106), ((.iand, 0, 0, 0), 107), ((.iastore, 0, 0, 0), 108), ((.aload 0, 0, 0, 0), 109), ((.dup, 0, 0, 0), 110), ((.getfield 0, 11001, 0, 0), 113), ((.iconst 0, 0, 1, 0), 114), ((.iadd, 0, 0, 0), 115), ((.putfield 0, 11001, 0, 0), 118), ((.iinc 0 0, 6, 1, 0), 121), ((.goto 0, 28, 0, 0), 28)] 81 _ _ _ (by decide +kernel) (And.intro rfl (And.intro rfl (And.intro (by decide) (And.intro rfl (And.intro o0_ (And.intro rfl (And.intro rfl (And.intro rfl (And.intro trivial (sw_pick [2, 3, 4, 5, 6, 7, 0] rfl k))))))))))
theorem B_X11_feed_124 {E : sw_E} {d : Nat} {σ : sw_St} {Q : Option Value → sw_St → Prop} (hq : Q (some (.int (σ.1 0 1))) σ) : sw_W E sw_gM m_X11_feed d 124 [(0, .ref 0)] [] σ Q :=
  sw_go [((.aload 0, 0, 0, 0), 125), ((.getfield 0, 11001, 0, 0), 128)] 124 _ _ _ (by decide +kernel) (And.intro rfl (so_ireturn (by decide +kernel) rfl rfl hq))
/-! StrayWoolModel.end(I)Z -/
theorem B_X11_end_0 {E : sw_E} {d : Nat} {σ : sw_St} {Q : Option Value → sw_St → Prop} {x1 : Int32} (kt : x1 < 0 → sw_W E sw_gM m_X11_end d 12 [(0, .ref 0)] [] σ Q) (kf : ¬ x1 < 0 → sw_W E sw_gM m_X11_end d 4 [(0, .ref 0), (1, .int x1)] [] σ Q) : sw_W E sw_gM m_X11_end d 0 [(0, .ref 0), (1, .int x1)] [] σ Q :=
  sw_go [((.iload 0, 1, 0, 0), 1), ((.ifCond .lt 0, 12, 0, 0), 4)] 0 _ _ _ (by decide +kernel) (And.intro (fun h => sw_pick [0] rfl (kt h)) (fun h => sw_pick [0, 1] rfl (kf h)))
theorem B_X11_end_4 {E : sw_E} {d : Nat} {σ : sw_St} {Q : Option Value → sw_St → Prop} {x1 : Int32} (kt : x1 ≤ (σ.1 0 1) → sw_W E sw_gM m_X11_end d 24 [(0, .ref 0), (1, .int x1)] [] σ Q) (kf : ¬ x1 ≤ (σ.1 0 1) → sw_W E sw_gM m_X11_end d 12 [(0, .ref 0)] [] σ Q) : sw_W E sw_gM m_X11_end d 4 [(0, .ref 0), (1, .int x1)] [] σ Q :=
  sw_go [((.iload 0, 1, 0, 0), 5), ((.aload 0, 0, 0, 0), 6), ((.getfield 0, 11001, 0, 0), 9), ((.if_icmp .le 0, 24, 0, 0), 12)] 4 _ _ _ (by decide +kernel) (And.intro rfl (And.intro (fun h => sw_pick [0, 1] rfl (kt h)) (fun h => sw_pick [0] rfl (kf h))))
theorem B_X11_end_12 {E : sw_E} {d : Nat} {σ : sw_St} {Q : Option Value → sw_St → Prop} (hq : Q (some (.int 0)) (sw_uI σ 2 0 ((σ.1 2 0) + 1))) : sw_W E sw_gM m_X11_end d 12 [(0, .ref 0)] [] σ Q :=
  sw_go [((.aload 0, 0, 0, 0), 13), ((.getfield 0, 11009, 0, 0), 16), ((.iconst 0, 0, 0, 0), 17), ((.dup2, 0, 0, 0), 18), ((.iaload, 0, 0, 0), 19), ((.iconst 0, 0, 1, 0), 20), ((.iadd, 0, 0, 0), 21), ((.iastore, 0, 0, 0), 22), ((.iconst 0, 0, 0, 0), 23)] 12 _ _ _ (by decide +kernel) (And.intro rfl (And.intro rfl (And.intro rfl (And.intro rfl (And.intro (by unfold vp_in; decide) (And.intro rfl (And.intro (by unfold vp_in; decide) (so_ireturn (by decide +kernel) rfl rfl hq))))))))
theorem B_X11_end_24 {E : sw_E} {d : Nat} {σ : sw_St} {Q : Option Value → sw_St → Prop} {x1 : Int32} (hq : Q (some (.int 1)) (sw_uI σ 0 1 x1)) : sw_W E sw_gM m_X11_end d 24 [(0, .ref 0), (1, .int x1)] [] σ Q :=
  sw_go [((.aload 0, 0, 0, 0), 25), ((.iload 0, 1, 0, 0), 26), ((.putfield 0, 11001, 0, 0), 29), ((.iconst 0, 0, 1, 0), 30)] 24 _ _ _ (by decide +kernel) (And.intro rfl (And.intro trivial (so_ireturn (by decide +kernel) rfl rfl hq)))
/-! StrayWoolModel.fail(II)V -/
theorem B_X11_fail_0 {E : sw_E} {d : Nat} {σ : sw_St} {Q : Option Value → sw_St → Prop} {x1 : Int32} {x2 : Int32} (kt : (σ.1 0 5) = 0 → sw_W E sw_gM m_X11_fail d 8 [(0, .ref 0), (1, .int x1), (2, .int x2)] [] σ Q) (kf : ¬ (σ.1 0 5) = 0 → sw_W E sw_gM m_X11_fail d 7 [] [] σ Q) : sw_W E sw_gM m_X11_fail d 0 [(0, .ref 0), (1, .int x1), (2, .int x2)] [] σ Q :=
  sw_go [((.aload 0, 0, 0, 0), 1), ((.getfield 0, 11005, 0, 0), 4), ((.ifCond .eq 0, 8, 0, 0), 7)] 0 _ _ _ (by decide +kernel) (And.intro rfl (And.intro (fun h => sw_pick [0, 1, 2] rfl (kt h)) (fun h => sw_pick [] rfl (kf h))))
theorem B_X11_fail_7 {E : sw_E} {d : Nat} {σ : sw_St} {Q : Option Value → sw_St → Prop} (hq : Q none σ) : sw_W E sw_gM m_X11_fail d 7 [] [] σ Q :=
  sw_go [] 7 _ _ _ (by decide +kernel) (so_return (by decide +kernel) rfl hq)
theorem B_X11_fail_8 {E : sw_E} {d : Nat} {σ : sw_St} {Q : Option Value → sw_St → Prop} {x1 : Int32} {x2 : Int32} (hq : Q none (sw_uI (sw_uI σ 0 5 x1) 0 6 x2)) : sw_W E sw_gM m_X11_fail d 8 [(0, .ref 0), (1, .int x1), (2, .int x2)] [] σ Q :=
  sw_go [((.aload 0, 0, 0, 0), 9), ((.iload 0, 1, 0, 0), 10), ((.putfield 0, 11005, 0, 0), 13), ((.aload 0, 0, 0, 0), 14), ((.iload 0, 2, 0, 0), 15), ((.putfield 0, 11006, 0, 0), 18)] 8 _ _ _ (by decide +kernel) (And.intro rfl (And.intro trivial (And.intro rfl (And.intro trivial (so_return (by decide +kernel) rfl hq)))))
/-! StrayWoolModel.number(II)I -/
theorem B_X11_number_0 {E : sw_E} {d : Nat} {σ : sw_St} {Q : Option Value → sw_St → Prop} {x1 : Int32} {x2 : Int32} (kt : (σ.1 0 5) = 0 → sw_W E sw_gM m_X11_number d 9 [(0, .ref 0), (1, .int x1), (2, .int x2)] [] σ Q) (kf : ¬ (σ.1 0 5) = 0 → sw_W E sw_gM m_X11_number d 7 [] [] σ Q) : sw_W E sw_gM m_X11_number d 0 [(0, .ref 0), (1, .int x1), (2, .int x2)] [] σ Q :=
  sw_go [((.aload 0, 0, 0, 0), 1), ((.getfield 0, 11005, 0, 0), 4), ((.ifCond .eq 0, 9, 0, 0), 7)] 0 _ _ _ (by decide +kernel) (And.intro rfl (And.intro (fun h => sw_pick [0, 1, 2] rfl (kt h)) (fun h => sw_pick [] rfl (kf h))))
theorem B_X11_number_7 {E : sw_E} {d : Nat} {σ : sw_St} {Q : Option Value → sw_St → Prop} (hq : Q (some (.int 0)) σ) : sw_W E sw_gM m_X11_number d 7 [] [] σ Q :=
  sw_go [((.iconst 0, 0, 0, 0), 8)] 7 _ _ _ (by decide +kernel) (so_ireturn (by decide +kernel) rfl rfl hq)
theorem B_X11_number_9 {E : sw_E} {d : Nat} {σ : sw_St} {Q : Option Value → sw_St → Prop} {x1 : Int32} {x2 : Int32} {d1 : Nat} {Q1 : Int32 → sw_St → Prop} (hM : sw_KI E sw_gM m_X11_look d1 [.ref 0] σ Q1) (hdd : d1 < d) (k : ∀ (v : Int32) (s : sw_St), Q1 v s → sw_W E sw_gM m_X11_number d 13 [(0, .ref 0), (1, .int x1), (2, .int x2)] (.int v :: []) s Q) : sw_W E sw_gM m_X11_number d 9 [(0, .ref 0), (1, .int x1), (2, .int x2)] [] σ Q :=
  sw_go [((.aload 0, 0, 0, 0), 10)] 9 _ _ _ (by decide +kernel) (so_callV (N := m_X11_look) (As := []) (st := []) (n := 0) (by decide +kernel) ln_11_260 mk_X11_look rfl (by decide) (by decide +kernel) rfl rfl (by decide) hdd hM (fun r s h => by obtain ⟨v, rfl, h⟩ := h; exact sw_pick [0, 1, 2] rfl (k v s h)))
theorem B_X11_number_13 {E : sw_E} {d : Nat} {σ : sw_St} {Q : Option Value → sw_St → Prop} {x1 : Int32} {x2 : Int32} {sx0 : Int32} {d1 : Nat} {Q1 : Int32 → sw_St → Prop} (hM : sw_KI E sw_gM m_X11_isDigit d1 [.int sx0] σ Q1) (hdd : d1 < d) (k : ∀ (v : Int32) (s : sw_St), Q1 v s → sw_W E sw_gM m_X11_number d 16 [(0, .ref 0), (1, .int x1), (2, .int x2)] (.int v :: []) s Q) : sw_W E sw_gM m_X11_number d 13 [(0, .ref 0), (1, .int x1), (2, .int x2)] [.int sx0] σ Q :=
  sw_go [] 13 _ _ _ (by decide +kernel) (so_callS (N := m_X11_isDigit) (As := [.int sx0]) (st := []) (n := 1) (by decide +kernel) ln_11_285 mk_X11_isDigit (by decide +kernel) rfl (by decide) hdd hM (fun r s h => by obtain ⟨v, rfl, h⟩ := h; exact sw_pick [0, 1, 2] rfl (k v s h)))
theorem B_X11_number_16 {E : sw_E} {d : Nat} {σ : sw_St} {Q : Option Value → sw_St → Prop} {x1 : Int32} {x2 : Int32} {sx0 : Int32} (kt : sx0 = 0 → sw_W E sw_gM m_X11_number d 30 [(0, .ref 0)] [] σ Q) (kf : ¬ sx0 = 0 → sw_W E sw_gM m_X11_number d 19 [(0, .ref 0), (1, .int x1), (2, .int x2)] [] σ Q) : sw_W E sw_gM m_X11_number d 16 [(0, .ref 0), (1, .int x1), (2, .int x2)] [.int sx0] σ Q :=
  sw_go [((.ifCond .eq 0, 30, 0, 0), 19)] 16 _ _ _ (by decide +kernel) (And.intro (fun h => sw_pick [0] rfl (kt h)) (fun h => sw_pick [0, 1, 2] rfl (kf h)))
theorem B_X11_number_19 {E : sw_E} {d : Nat} {σ : sw_St} {Q : Option Value → sw_St → Prop} {x1 : Int32} {x2 : Int32} (kt : ¬ (σ.1 0 2) = (σ.1 0 4) → sw_W E sw_gM m_X11_number d 41 [(0, .ref 0), (1, .int x1), (2, .int x2)] [] σ Q) (kf : (σ.1 0 2) = (σ.1 0 4) → sw_W E sw_gM m_X11_number d 30 [(0, .ref 0)] [] σ Q) : sw_W E sw_gM m_X11_number d 19 [(0, .ref 0), (1, .int x1), (2, .int x2)] [] σ Q :=
  sw_go [((.aload 0, 0, 0, 0), 20), ((.getfield 0, 11002, 0, 0), 23), ((.aload 0, 0, 0, 0), 24), ((.getfield 0, 11004, 0, 0), 27), ((.if_icmp .ne 0, 41, 0, 0), 30)] 19 _ _ _ (by decide +kernel) (And.intro rfl (And.intro rfl (And.intro (fun h => sw_pick [0, 1, 2] rfl (kt h)) (fun h => sw_pick [0] rfl (kf h)))))
theorem B_X11_number_30 {E : sw_E} {d : Nat} {σ : sw_St} {Q : Option Value → sw_St → Prop} {d1 : Nat} {Q1 : sw_St → Prop} (hM : sw_KV E sw_gM m_X11_fail d1 [.ref 0, .int 1, .int (σ.1 0 2)] σ Q1) (hdd : d1 < d) (k : ∀ s : sw_St, Q1 s → sw_W E sw_gM m_X11_number d 39 [] [] s Q) : sw_W E sw_gM m_X11_number d 30 [(0, .ref 0)] [] σ Q :=
  sw_go [((.aload 0, 0, 0, 0), 31), ((.iconst 0, 0, 1, 0), 32), ((.aload 0, 0, 0, 0), 33), ((.getfield 0, 11002, 0, 0), 36)] 30 _ _ _ (by decide +kernel) (And.intro rfl (so_callV (N := m_X11_fail) (As := [.int 1, .int (σ.1 0 2)]) (st := []) (n := 2) (by decide +kernel) ln_11_278 mk_X11_fail rfl (by decide) (by decide +kernel) rfl rfl (by decide) hdd hM (fun r s h => by obtain ⟨rfl, h⟩ := h; exact sw_pick [] rfl (k s h))))
theorem B_X11_number_39 {E : sw_E} {d : Nat} {σ : sw_St} {Q : Option Value → sw_St → Prop} (hq : Q (some (.int 0)) σ) : sw_W E sw_gM m_X11_number d 39 [] [] σ Q :=
  sw_go [((.iconst 0, 0, 0, 0), 40)] 39 _ _ _ (by decide +kernel) (so_ireturn (by decide +kernel) rfl rfl hq)
theorem B_X11_number_41 {E : sw_E} {d : Nat} {σ : sw_St} {Q : Option Value → sw_St → Prop} {x1 : Int32} {x2 : Int32} (k : sw_W E sw_gM m_X11_number d 49 [(0, .ref 0), (1, .int x1), (2, .int x2), (3, .int (σ.1 0 2)), (4, .int 0)] [] σ Q) : sw_W E sw_gM m_X11_number d 41 [(0, .ref 0), (1, .int x1), (2, .int x2)] [] σ Q :=
  sw_go [((.aload 0, 0, 0, 0), 42), ((.getfield 0, 11002, 0, 0), 45), ((.istore 0, 3, 0, 0), 46), ((.iconst 0, 0, 0, 0), 47), ((.istore 0, 4, 0, 0), 49)] 41 _ _ _ (by decide +kernel) (And.intro rfl (sw_pick [2, 3, 4, 1, 0] rfl k))
theorem B_X11_number_49 {E : sw_E} {d : Nat} {σ : sw_St} {Q : Option Value → sw_St → Prop} {x1 : Int32} {x2 : Int32} {x3 : Int32} {x4 : Int32} (kt : (σ.1 0 3) ≤ (σ.1 0 2) → sw_W E sw_gM m_X11_number d 129 [(0, .ref 0), (1, .int x1), (2, .int x2), (3, .int x3), (4, .int x4)] [] σ Q) (kf : ¬ (σ.1 0 3) ≤ (σ.1 0 2) → sw_W E sw_gM m_X11_number d 60 [(0, .ref 0), (1, .int x1), (2, .int x2), (3, .int x3), (4, .int x4)] [] σ Q) : sw_W E sw_gM m_X11_number d 49 [(0, .ref 0), (1, .int x1), (2, .int x2), (3, .int x3), (4, .int x4)] [] σ Q :=
  sw_go [((.aload 0, 0, 0, 0), 50), ((.getfield 0, 11002, 0, 0), 53), ((.aload 0, 0, 0, 0), 54), ((.getfield 0, 11003, 0, 0), 57), ((.if_icmp .ge 0, 129, 0, 0), 60)] 49 _ _ _ (by decide +kernel) (And.intro rfl (And.intro rfl (And.intro (fun h => sw_pick [0, 1, 2, 3, 4] rfl (kt h)) (fun h => sw_pick [0, 1, 2, 3, 4] rfl (kf h)))))
theorem B_X11_number_60 {E : sw_E} {d : Nat} {σ : sw_St} {Q : Option Value → sw_St → Prop} {x1 : Int32} {x2 : Int32} {x3 : Int32} {x4 : Int32} {d1 : Nat} {Q1 : Int32 → sw_St → Prop} (o0_ : vp_in (σ.1 0 2) 1600) (hM : sw_KI E sw_gM m_X11_isDigit d1 [.int (σ.1 1 ((σ.1 0 2).toNatClampNeg))] σ Q1) (hdd : d1 < d) (k : ∀ (v : Int32) (s : sw_St), Q1 v s → sw_W E sw_gM m_X11_number d 72 [(0, .ref 0), (1, .int x1), (2, .int x2), (3, .int x3), (4, .int x4)] (.int v :: []) s Q) : sw_W E sw_gM m_X11_number d 60 [(0, .ref 0), (1, .int x1), (2, .int x2), (3, .int x3), (4, .int x4)] [] σ Q :=
  sw_go [((.aload 0, 0, 0, 0), 61), ((.getfield 0, 11000, 0, 0), 64), ((.aload 0, 0, 0, 0), 65), ((.getfield 0, 11002, 0, 0), 68), ((.iaload, 0, 0, 0), 69)] 60 _ _ _ (by decide +kernel) (And.intro rfl (And.intro rfl (And.intro rfl (And.intro o0_ (so_callS (N := m_X11_isDigit) (As := [.int (σ.1 1 ((σ.1 0 2).toNatClampNeg))]) (st := []) (n := 1) (by decide +kernel) ln_11_285 mk_X11_isDigit (by decide +kernel) rfl (by decide) hdd hM (fun r s h => by obtain ⟨v, rfl, h⟩ := h; exact sw_pick [0, 1, 2, 3, 4] rfl (k v s h)))))))
theorem B_X11_number_72 {E : sw_E} {d : Nat} {σ : sw_St} {Q : Option Value → sw_St → Prop} {x1 : Int32} {x2 : Int32} {x3 : Int32} {x4 : Int32} {sx0 : Int32} (kt : sx0 = 0 → sw_W E sw_gM m_X11_number d 129 [(0, .ref 0), (1, .int x1), (2, .int x2), (3, .int x3), (4, .int x4)] [] σ Q) (kf : ¬ sx0 = 0 → sw_W E sw_gM m_X11_number d 75 [(0, .ref 0), (1, .int x1), (2, .int x2), (3, .int x3), (4, .int x4)] [] σ Q) : sw_W E sw_gM m_X11_number d 72 [(0, .ref 0), (1, .int x1), (2, .int x2), (3, .int x3), (4, .int x4)] [.int sx0] σ Q :=
  sw_go [((.ifCond .eq 0, 129, 0, 0), 75)] 72 _ _ _ (by decide +kernel) (And.intro (fun h => sw_pick [0, 1, 2, 3, 4] rfl (kt h)) (fun h => sw_pick [0, 1, 2, 3, 4] rfl (kf h)))
theorem B_X11_number_75 {E : sw_E} {d : Nat} {σ : sw_St} {Q : Option Value → sw_St → Prop} {x1 : Int32} {x2 : Int32} {x3 : Int32} {x4 : Int32} (kt : ¬ ((σ.1 0 2) - x3) = 4 → sw_W E sw_gM m_X11_number d 96 [(0, .ref 0), (1, .int x1), (2, .int x2), (3, .int x3), (4, .int x4)] [] σ Q) (kf : ((σ.1 0 2) - x3) = 4 → sw_W E sw_gM m_X11_number d 85 [(0, .ref 0)] [] σ Q) : sw_W E sw_gM m_X11_number d 75 [(0, .ref 0), (1, .int x1), (2, .int x2), (3, .int x3), (4, .int x4)] [] σ Q :=
  sw_go [((.aload 0, 0, 0, 0), 76), ((.getfield 0, 11002, 0, 0), 79), ((.iload 0, 3, 0, 0), 80), ((.isub, 0, 0, 0), 81), ((.iconst 0, 0, 4, 0), 82), ((.if_icmp .ne 0, 96, 0, 0), 85)] 75 _ _ _ (by decide +kernel) (And.intro rfl (And.intro (fun h => sw_pick [0, 1, 2, 3, 4] rfl (kt h)) (fun h => sw_pick [0] rfl (kf h))))
theorem B_X11_number_85 {E : sw_E} {d : Nat} {σ : sw_St} {Q : Option Value → sw_St → Prop} {d1 : Nat} {Q1 : sw_St → Prop} (hM : sw_KV E sw_gM m_X11_fail d1 [.ref 0, .int 1, .int (σ.1 0 2)] σ Q1) (hdd : d1 < d) (k : ∀ s : sw_St, Q1 s → sw_W E sw_gM m_X11_number d 94 [] [] s Q) : sw_W E sw_gM m_X11_number d 85 [(0, .ref 0)] [] σ Q :=
  sw_go [((.aload 0, 0, 0, 0), 86), ((.iconst 0, 0, 1, 0), 87), ((.aload 0, 0, 0, 0), 88), ((.getfield 0, 11002, 0, 0), 91)] 85 _ _ _ (by decide +kernel) (And.intro rfl (so_callV (N := m_X11_fail) (As := [.int 1, .int (σ.1 0 2)]) (st := []) (n := 2) (by decide +kernel) ln_11_278 mk_X11_fail rfl (by decide) (by decide +kernel) rfl rfl (by decide) hdd hM (fun r s h => by obtain ⟨rfl, h⟩ := h; exact sw_pick [] rfl (k s h))))
theorem B_X11_number_94 {E : sw_E} {d : Nat} {σ : sw_St} {Q : Option Value → sw_St → Prop} (hq : Q (some (.int 0)) σ) : sw_W E sw_gM m_X11_number d 94 [] [] σ Q :=
  sw_go [((.iconst 0, 0, 0, 0), 95)] 94 _ _ _ (by decide +kernel) (so_ireturn (by decide +kernel) rfl rfl hq)
theorem B_X11_number_96 {E : sw_E} {d : Nat} {σ : sw_St} {Q : Option Value → sw_St → Prop} {x1 : Int32} {x2 : Int32} {x3 : Int32} {x4 : Int32} (o0_ : vp_in (σ.1 0 2) 1600) (k : sw_W E sw_gM m_X11_number d 49 [(0, .ref 0), (1, .int x1), (2, .int x2), (3, .int x3), (4, .int (((10 * x4) + (σ.1 1 ((σ.1 0 2).toNatClampNeg))) - 48))] [] (sw_uI σ 0 2 ((σ.1 0 2) + 1)) Q) : sw_W E sw_gM m_X11_number d 96 [(0, .ref 0), (1, .int x1), (2, .int x2), (3, .int x3), (4, .int x4)] [] σ Q :=
  sw_go [((.iconst 0, 0, 10, 0), 98), ((.iload 0, 4, 0, 0), 100), ((.imul, 0, 0, 0), 101), ((.aload 0, 0, 0, 0), 102), ((.getfield 0, 11000, 0, 0), 105), ((.aload 0, 0, 0, 0), 106), ((.getfield 0, 11002, 0, 0), 109), ((.iaload, 0, 0, 0), 110), ((.iadd, 0, 0, 0), 111), ((.iconst 0, 0, 48, 0), 113), ((.isub, 0, 0, 0), 114), ((.istore 0, 4, 0, 0), 116), ((.aload 0, 0, 0, 0), 117), ((.dup, 0, 0, 0), 118), ((.getfield 0, 11002, 0, 0), 121), ((.iconst 0, 0, 1, 0), 122), ((.iadd, 0, 0, 0), 123), ((.putfield 0, 11002, 0, 0), 126), ((.goto 0, 49, 0, 0), 49)] 96 _ _ _ (by decide +kernel) (And.intro rfl (And.intro rfl (And.intro rfl (And.intro o0_ (And.intro rfl (And.intro rfl (And.intro rfl (And.intro trivial (sw_pick [1, 2, 3, 4, 0] rfl k)))))))))
theorem B_X11_number_129 {E : sw_E} {d : Nat} {σ : sw_St} {Q : Option Value → sw_St → Prop} {x1 : Int32} {x2 : Int32} {x3 : Int32} {x4 : Int32} {d1 : Nat} {Q1 : Int32 → sw_St → Prop} (hM : sw_KI E sw_gM m_X11_isIn d1 [.long x4.toInt64, .long x1.toInt64, .long x2.toInt64] (sw_uI (sw_uI σ 0 4 (σ.1 0 2)) 0 10 x3) Q1) (hdd : d1 < d) (k : ∀ (v : Int32) (s : sw_St), Q1 v s → sw_W E sw_gM m_X11_number d 152 [(0, .ref 0), (4, .int x4)] (.int v :: []) s Q) : sw_W E sw_gM m_X11_number d 129 [(0, .ref 0), (1, .int x1), (2, .int x2), (3, .int x3), (4, .int x4)] [] σ Q :=
  sw_go [((.aload 0, 0, 0, 0), 130), ((.aload 0, 0, 0, 0), 131), ((.getfield 0, 11002, 0, 0), 134), ((.putfield 0, 11004, 0, 0), 137), ((.aload 0, 0, 0, 0), 138), ((.iload 0, 3, 0, 0), 139), ((.putfield 0, 11010, 0, 0), 142), ((.iload 0, 4, 0, 0), 144), ((.i2l, 0, 0, 0), 145), ((.iload 0, 1, 0, 0), 146), ((.i2l, 0, 0, 0), 147), ((.iload 0, 2, 0, 0), 148), ((.i2l, 0, 0, 0), 149)] 129 _ _ _ (by decide +kernel) (And.intro rfl (And.intro rfl (And.intro trivial (And.intro rfl (And.intro trivial (so_callS (N := m_X11_isIn) (As := [.long x4.toInt64, .long x1.toInt64, .long x2.toInt64]) (st := []) (n := 3) (by decide +kernel) ln_11_291 mk_X11_isIn (by decide +kernel) rfl (by decide) hdd hM (fun r s h => by obtain ⟨v, rfl, h⟩ := h; exact sw_pick [0, 4] rfl (k v s h))))))))
theorem B_X11_number_152 {E : sw_E} {d : Nat} {σ : sw_St} {Q : Option Value → sw_St → Prop} {x4 : Int32} {sx0 : Int32} (kt : ¬ sx0 = 0 → sw_W E sw_gM m_X11_number d 164 [(4, .int x4)] [] σ Q) (kf : sx0 = 0 → sw_W E sw_gM m_X11_number d 155 [(0, .ref 0), (4, .int x4)] [] σ Q) : sw_W E sw_gM m_X11_number d 152 [(0, .ref 0), (4, .int x4)] [.int sx0] σ Q :=
  sw_go [((.ifCond .ne 0, 164, 0, 0), 155)] 152 _ _ _ (by decide +kernel) (And.intro (fun h => sw_pick [1] rfl (kt h)) (fun h => sw_pick [0, 1] rfl (kf h)))
theorem B_X11_number_155 {E : sw_E} {d : Nat} {σ : sw_St} {Q : Option Value → sw_St → Prop} {x4 : Int32} {d1 : Nat} {Q1 : sw_St → Prop} (hM : sw_KV E sw_gM m_X11_fail d1 [.ref 0, .int 2, .int (σ.1 0 10)] σ Q1) (hdd : d1 < d) (k : ∀ s : sw_St, Q1 s → sw_W E sw_gM m_X11_number d 164 [(4, .int x4)] [] s Q) : sw_W E sw_gM m_X11_number d 155 [(0, .ref 0), (4, .int x4)] [] σ Q :=
  sw_go [((.aload 0, 0, 0, 0), 156), ((.iconst 0, 0, 2, 0), 157), ((.aload 0, 0, 0, 0), 158), ((.getfield 0, 11010, 0, 0), 161)] 155 _ _ _ (by decide +kernel) (And.intro rfl (so_callV (N := m_X11_fail) (As := [.int 2, .int (σ.1 0 10)]) (st := []) (n := 2) (by decide +kernel) ln_11_278 mk_X11_fail rfl (by decide) (by decide +kernel) rfl rfl (by decide) hdd hM (fun r s h => by obtain ⟨rfl, h⟩ := h; exact sw_pick [1] rfl (k s h))))
theorem B_X11_number_164 {E : sw_E} {d : Nat} {σ : sw_St} {Q : Option Value → sw_St → Prop} {x4 : Int32} (hq : Q (some (.int x4)) σ) : sw_W E sw_gM m_X11_number d 164 [(4, .int x4)] [] σ Q :=
  sw_go [((.iload 0, 4, 0, 0), 166)] 164 _ _ _ (by decide +kernel) (so_ireturn (by decide +kernel) rfl rfl hq)
/-! StrayWoolModel.isIn(JJJ)Z -/
theorem B_X11_isIn_0 {E : sw_E} {d : Nat} {σ : sw_St} {Q : Option Value → sw_St → Prop} {y0 : Int64} {y2 : Int64} {y4 : Int64} (kt : (lg_cmp y0 y2) < 0 → sw_W E sw_gM m_X11_isIn d 17 [] [] σ Q) (kf : ¬ (lg_cmp y0 y2) < 0 → sw_W E sw_gM m_X11_isIn d 6 [(0, .long y0), (4, .long y4)] [] σ Q) : sw_W E sw_gM m_X11_isIn d 0 [(0, .long y0), (2, .long y2), (4, .long y4)] [] σ Q :=
  sw_go [((.lload 0, 0, 0, 0), 1), ((.lload 0, 2, 0, 0), 2), ((.lcmp, 0, 0, 0), 3), ((.ifCond .lt 0, 17, 0, 0), 6)] 0 _ _ _ (by decide +kernel) (And.intro (fun h => sw_pick [] rfl (kt h)) (fun h => sw_pick [0, 2] rfl (kf h)))
theorem B_X11_isIn_6 {E : sw_E} {d : Nat} {σ : sw_St} {Q : Option Value → sw_St → Prop} {y0 : Int64} {y4 : Int64} (kt : 0 < (lg_cmp y0 y4) → sw_W E sw_gM m_X11_isIn d 17 [] [] σ Q) (kf : ¬ 0 < (lg_cmp y0 y4) → sw_W E sw_gM m_X11_isIn d 13 [] [] σ Q) : sw_W E sw_gM m_X11_isIn d 6 [(0, .long y0), (4, .long y4)] [] σ Q :=
  sw_go [((.lload 0, 0, 0, 0), 7), ((.lload 0, 4, 0, 0), 9), ((.lcmp, 0, 0, 0), 10), ((.ifCond .gt 0, 17, 0, 0), 13)] 6 _ _ _ (by decide +kernel) (And.intro (fun h => sw_pick [] rfl (kt h)) (fun h => sw_pick [] rfl (kf h)))
theorem B_X11_isIn_13 {E : sw_E} {d : Nat} {σ : sw_St} {Q : Option Value → sw_St → Prop} (k : sw_W E sw_gM m_X11_isIn d 18 [] [.int 1] σ Q) : sw_W E sw_gM m_X11_isIn d 13 [] [] σ Q :=
  sw_go [((.iconst 0, 0, 1, 0), 14), ((.goto 0, 18, 0, 0), 18)] 13 _ _ _ (by decide +kernel) (sw_pick [] rfl k)
theorem B_X11_isIn_17 {E : sw_E} {d : Nat} {σ : sw_St} {Q : Option Value → sw_St → Prop} (k : sw_W E sw_gM m_X11_isIn d 18 [] [.int 0] σ Q) : sw_W E sw_gM m_X11_isIn d 17 [] [] σ Q :=
  sw_go [((.iconst 0, 0, 0, 0), 18)] 17 _ _ _ (by decide +kernel) (sw_pick [] rfl k)
theorem B_X11_isIn_18 {E : sw_E} {d : Nat} {σ : sw_St} {Q : Option Value → sw_St → Prop} {sx0 : Int32} (hz : sx0 = 0 ∨ sx0 = 1) (hq : Q (some (.int sx0)) σ) : sw_W E sw_gM m_X11_isIn d 18 [] [.int sx0] σ Q :=
  sw_go [] 18 _ _ _ (by decide +kernel) (so_ireturn (by decide +kernel) rfl (sw_nz hz) hq)
/-! StrayWoolModel.has(I)I -/
theorem B_X11_has_0 {E : sw_E} {d : Nat} {σ : sw_St} {Q : Option Value → sw_St → Prop} {x1 : Int32} (k0 : x1 = 0 → sw_W E sw_gM m_X11_has d 56 [(0, .ref 0)] [] σ Q) (k1 : x1 = 1 → sw_W E sw_gM m_X11_has d 61 [(0, .ref 0)] [] σ Q) (k2 : x1 = 2 → sw_W E sw_gM m_X11_has d 66 [(0, .ref 0)] [] σ Q) (k3 : x1 = 3 → sw_W E sw_gM m_X11_has d 71 [(0, .ref 0)] [] σ Q) (k4 : x1 = 4 → sw_W E sw_gM m_X11_has d 78 [(0, .ref 0)] [] σ Q) (k5 : x1 = 5 → sw_W E sw_gM m_X11_has d 83 [(0, .ref 0)] [] σ Q) (k6 : x1 = 6 → sw_W E sw_gM m_X11_has d 90 [(0, .ref 0)] [] σ Q) (k7 : x1 = 7 → sw_W E sw_gM m_X11_has d 95 [(0, .ref 0)] [] σ Q) (k8 : x1 = 8 → sw_W E sw_gM m_X11_has d 103 [(0, .ref 0)] [] σ Q) (k9 : x1 = 9 → sw_W E sw_gM m_X11_has d 108 [(0, .ref 0)] [] σ Q) (kd : ¬ x1 = 0 → ¬ x1 = 1 → ¬ x1 = 2 → ¬ x1 = 3 → ¬ x1 = 4 → ¬ x1 = 5 → ¬ x1 = 6 → ¬ x1 = 7 → ¬ x1 = 8 → ¬ x1 = 9 → sw_W E sw_gM m_X11_has d 113 [] [] σ Q) : sw_W E sw_gM m_X11_has d 0 [(0, .ref 0), (1, .int x1)] [] σ Q :=
  sw_go [((.iload 0, 1, 0, 0), 1)] 0 _ _ _ (by decide +kernel) (sw_table (df := 113) [(0, 56), (1, 61), (2, 66), (3, 71), (4, 78), (5, 83), (6, 90), (7, 95), (8, 103), (9, 108)] (by decide +kernel) (by decide +kernel) (And.intro (fun h => sw_pick [0] rfl (k0 h)) (fun n0 => And.intro (fun h => sw_pick [0] rfl (k1 h)) (fun n1 => And.intro (fun h => sw_pick [0] rfl (k2 h)) (fun n2 => And.intro (fun h => sw_pick [0] rfl (k3 h)) (fun n3 => And.intro (fun h => sw_pick [0] rfl (k4 h)) (fun n4 => And.intro (fun h => sw_pick [0] rfl (k5 h)) (fun n5 => And.intro (fun h => sw_pick [0] rfl (k6 h)) (fun n6 => And.intro (fun h => sw_pick [0] rfl (k7 h)) (fun n7 => And.intro (fun h => sw_pick [0] rfl (k8 h)) (fun n8 => And.intro (fun h => sw_pick [0] rfl (k9 h)) (fun n9 => sw_pick [] rfl (kd n0 n1 n2 n3 n4 n5 n6 n7 n8 n9)))))))))))))
theorem B_X11_has_56 {E : sw_E} {d : Nat} {σ : sw_St} {Q : Option Value → sw_St → Prop} {d1 : Nat} {Q1 : Int32 → sw_St → Prop} (hM : sw_KI E sw_gM m_X11_fieldMany d1 [.ref 0] σ Q1) (hdd : d1 < d) (k : ∀ (v : Int32) (s : sw_St), Q1 v s → sw_W E sw_gM m_X11_has d 60 [] (.int v :: []) s Q) : sw_W E sw_gM m_X11_has d 56 [(0, .ref 0)] [] σ Q :=
  sw_go [((.aload 0, 0, 0, 0), 57)] 56 _ _ _ (by decide +kernel) (so_callV (N := m_X11_fieldMany) (As := []) (st := []) (n := 0) (by decide +kernel) ln_11_394 mk_X11_fieldMany rfl (by decide) (by decide +kernel) rfl rfl (by decide) hdd hM (fun r s h => by obtain ⟨v, rfl, h⟩ := h; exact sw_pick [] rfl (k v s h)))
theorem B_X11_has_60 {E : sw_E} {d : Nat} {σ : sw_St} {Q : Option Value → sw_St → Prop} {sx0 : Int32} (hq : Q (some (.int sx0)) σ) : sw_W E sw_gM m_X11_has d 60 [] [.int sx0] σ Q :=
  sw_go [] 60 _ _ _ (by decide +kernel) (so_ireturn (by decide +kernel) rfl rfl hq)
theorem B_X11_has_61 {E : sw_E} {d : Nat} {σ : sw_St} {Q : Option Value → sw_St → Prop} {d1 : Nat} {Q1 : Int32 → sw_St → Prop} (hM : sw_KI E sw_gM m_X11_gapMany d1 [.ref 0] σ Q1) (hdd : d1 < d) (k : ∀ (v : Int32) (s : sw_St), Q1 v s → sw_W E sw_gM m_X11_has d 65 [] (.int v :: []) s Q) : sw_W E sw_gM m_X11_has d 61 [(0, .ref 0)] [] σ Q :=
  sw_go [((.aload 0, 0, 0, 0), 62)] 61 _ _ _ (by decide +kernel) (so_callV (N := m_X11_gapMany) (As := []) (st := []) (n := 0) (by decide +kernel) ln_11_400 mk_X11_gapMany rfl (by decide) (by decide +kernel) rfl rfl (by decide) hdd hM (fun r s h => by obtain ⟨v, rfl, h⟩ := h; exact sw_pick [] rfl (k v s h)))
theorem B_X11_has_65 {E : sw_E} {d : Nat} {σ : sw_St} {Q : Option Value → sw_St → Prop} {sx0 : Int32} (hq : Q (some (.int sx0)) σ) : sw_W E sw_gM m_X11_has d 65 [] [.int sx0] σ Q :=
  sw_go [] 65 _ _ _ (by decide +kernel) (so_ireturn (by decide +kernel) rfl rfl hq)
theorem B_X11_has_66 {E : sw_E} {d : Nat} {σ : sw_St} {Q : Option Value → sw_St → Prop} {d1 : Nat} {Q1 : Int32 → sw_St → Prop} (hM : sw_KI E sw_gM m_X11_sheepMany d1 [.ref 0] σ Q1) (hdd : d1 < d) (k : ∀ (v : Int32) (s : sw_St), Q1 v s → sw_W E sw_gM m_X11_has d 70 [] (.int v :: []) s Q) : sw_W E sw_gM m_X11_has d 66 [(0, .ref 0)] [] σ Q :=
  sw_go [((.aload 0, 0, 0, 0), 67)] 66 _ _ _ (by decide +kernel) (so_callV (N := m_X11_sheepMany) (As := []) (st := []) (n := 0) (by decide +kernel) ln_11_397 mk_X11_sheepMany rfl (by decide) (by decide +kernel) rfl rfl (by decide) hdd hM (fun r s h => by obtain ⟨v, rfl, h⟩ := h; exact sw_pick [] rfl (k v s h)))
theorem B_X11_has_70 {E : sw_E} {d : Nat} {σ : sw_St} {Q : Option Value → sw_St → Prop} {sx0 : Int32} (hq : Q (some (.int sx0)) σ) : sw_W E sw_gM m_X11_has d 70 [] [.int sx0] σ Q :=
  sw_go [] 70 _ _ _ (by decide +kernel) (so_ireturn (by decide +kernel) rfl rfl hq)
theorem B_X11_has_71 {E : sw_E} {d : Nat} {σ : sw_St} {Q : Option Value → sw_St → Prop} (hq : Q (some (.int (σ.1 37 0))) σ) : sw_W E sw_gM m_X11_has d 71 [(0, .ref 0)] [] σ Q :=
  sw_go [((.aload 0, 0, 0, 0), 72), ((.getfield 0, 11049, 0, 0), 75), ((.iconst 0, 0, 0, 0), 76), ((.iaload, 0, 0, 0), 77)] 71 _ _ _ (by decide +kernel) (And.intro rfl (And.intro rfl (And.intro (by unfold vp_in; decide) (so_ireturn (by decide +kernel) rfl rfl hq))))
theorem B_X11_has_78 {E : sw_E} {d : Nat} {σ : sw_St} {Q : Option Value → sw_St → Prop} {d1 : Nat} {Q1 : Int32 → sw_St → Prop} (hM : sw_KI E sw_gM m_X11_openMany d1 [.ref 0] σ Q1) (hdd : d1 < d) (k : ∀ (v : Int32) (s : sw_St), Q1 v s → sw_W E sw_gM m_X11_has d 82 [] (.int v :: []) s Q) : sw_W E sw_gM m_X11_has d 78 [(0, .ref 0)] [] σ Q :=
  sw_go [((.aload 0, 0, 0, 0), 79)] 78 _ _ _ (by decide +kernel) (so_callV (N := m_X11_openMany) (As := []) (st := []) (n := 0) (by decide +kernel) ln_11_495 mk_X11_openMany rfl (by decide) (by decide +kernel) rfl rfl (by decide) hdd hM (fun r s h => by obtain ⟨v, rfl, h⟩ := h; exact sw_pick [] rfl (k v s h)))
theorem B_X11_has_82 {E : sw_E} {d : Nat} {σ : sw_St} {Q : Option Value → sw_St → Prop} {sx0 : Int32} (hq : Q (some (.int sx0)) σ) : sw_W E sw_gM m_X11_has d 82 [] [.int sx0] σ Q :=
  sw_go [] 82 _ _ _ (by decide +kernel) (so_ireturn (by decide +kernel) rfl rfl hq)
theorem B_X11_has_83 {E : sw_E} {d : Nat} {σ : sw_St} {Q : Option Value → sw_St → Prop} (hq : Q (some (.int (σ.1 37 1))) σ) : sw_W E sw_gM m_X11_has d 83 [(0, .ref 0)] [] σ Q :=
  sw_go [((.aload 0, 0, 0, 0), 84), ((.getfield 0, 11049, 0, 0), 87), ((.iconst 0, 0, 1, 0), 88), ((.iaload, 0, 0, 0), 89)] 83 _ _ _ (by decide +kernel) (And.intro rfl (And.intro rfl (And.intro (by unfold vp_in; decide) (so_ireturn (by decide +kernel) rfl rfl hq))))
theorem B_X11_has_90 {E : sw_E} {d : Nat} {σ : sw_St} {Q : Option Value → sw_St → Prop} {d1 : Nat} {Q1 : Int32 → sw_St → Prop} (hM : sw_KI E sw_gM m_X11_woolAll d1 [.ref 0] σ Q1) (hdd : d1 < d) (k : ∀ (v : Int32) (s : sw_St), Q1 v s → sw_W E sw_gM m_X11_has d 94 [] (.int v :: []) s Q) : sw_W E sw_gM m_X11_has d 90 [(0, .ref 0)] [] σ Q :=
  sw_go [((.aload 0, 0, 0, 0), 91)] 90 _ _ _ (by decide +kernel) (so_callV (N := m_X11_woolAll) (As := []) (st := []) (n := 0) (by decide +kernel) ln_11_498 mk_X11_woolAll rfl (by decide) (by decide +kernel) rfl rfl (by decide) hdd hM (fun r s h => by obtain ⟨v, rfl, h⟩ := h; exact sw_pick [] rfl (k v s h)))
theorem B_X11_has_94 {E : sw_E} {d : Nat} {σ : sw_St} {Q : Option Value → sw_St → Prop} {sx0 : Int32} (hq : Q (some (.int sx0)) σ) : sw_W E sw_gM m_X11_has d 94 [] [.int sx0] σ Q :=
  sw_go [] 94 _ _ _ (by decide +kernel) (so_ireturn (by decide +kernel) rfl rfl hq)
theorem B_X11_has_95 {E : sw_E} {d : Nat} {σ : sw_St} {Q : Option Value → sw_St → Prop} (hq : Q (some (.int (σ.1 37 84))) σ) : sw_W E sw_gM m_X11_has d 95 [(0, .ref 0)] [] σ Q :=
  sw_go [((.aload 0, 0, 0, 0), 96), ((.getfield 0, 11049, 0, 0), 99), ((.iconst 0, 0, 84, 0), 101), ((.iaload, 0, 0, 0), 102)] 95 _ _ _ (by decide +kernel) (And.intro rfl (And.intro rfl (And.intro (by unfold vp_in; decide) (so_ireturn (by decide +kernel) rfl rfl hq))))
theorem B_X11_has_103 {E : sw_E} {d : Nat} {σ : sw_St} {Q : Option Value → sw_St → Prop} (hq : Q (some (.int (σ.1 0 63))) σ) : sw_W E sw_gM m_X11_has d 103 [(0, .ref 0)] [] σ Q :=
  sw_go [((.aload 0, 0, 0, 0), 104), ((.getfield 0, 11063, 0, 0), 107)] 103 _ _ _ (by decide +kernel) (And.intro rfl (so_ireturn (by decide +kernel) rfl rfl hq))
theorem B_X11_has_108 {E : sw_E} {d : Nat} {σ : sw_St} {Q : Option Value → sw_St → Prop} (hq : Q (some (.int (σ.1 0 67))) σ) : sw_W E sw_gM m_X11_has d 108 [(0, .ref 0)] [] σ Q :=
  sw_go [((.aload 0, 0, 0, 0), 109), ((.getfield 0, 11067, 0, 0), 112)] 108 _ _ _ (by decide +kernel) (And.intro rfl (so_ireturn (by decide +kernel) rfl rfl hq))
theorem B_X11_has_113 {E : sw_E} {d : Nat} {σ : sw_St} {Q : Option Value → sw_St → Prop} (hq : Q (some (.int (-1))) σ) : sw_W E sw_gM m_X11_has d 113 [] [] σ Q :=
  sw_go [((.iconst 0, 0, (-1), 0), 114)] 113 _ _ _ (by decide +kernel) (so_ireturn (by decide +kernel) rfl rfl hq)
/-! StrayWoolModel.codesTell(II)J -/
theorem B_X11_codesTell_0 {E : sw_E} {d : Nat} {σ : sw_St} {Q : Option Value → sw_St → Prop} {x1 : Int32} {x2 : Int32} (o0_ : vp_in (3 + x1) 6) (k : sw_W E sw_gM m_X11_codesTell d 24 [(0, .ref 0), (1, .int x1), (2, .int x2), (3, .int (σ.1 34 ((3 + x1).toNatClampNeg)))] [] (sw_uI (sw_uI (sw_uI σ 0 54 x2) 0 48 x1) 0 101 0) Q) : sw_W E sw_gM m_X11_codesTell d 0 [(0, .ref 0), (1, .int x1), (2, .int x2)] [] σ Q :=
  sw_go [((.aload 0, 0, 0, 0), 1), ((.iload 0, 2, 0, 0), 2), ((.putfield 0, 11054, 0, 0), 5), ((.aload 0, 0, 0, 0), 6), ((.iload 0, 1, 0, 0), 7), ((.putfield 0, 11048, 0, 0), 10), ((.aload 0, 0, 0, 0), 11), ((.iconst 0, 0, 0, 0), 12), ((.putfield 0, 11101, 0, 0), 15), ((.aload 0, 0, 0, 0), 16), ((.getfield 0, 11043, 0, 0), 19), ((.iconst 0, 0, 3, 0), 20), ((.iload 0, 1, 0, 0), 21), ((.iadd, 0, 0, 0), 22), ((.iaload, 0, 0, 0), 23), ((.istore 0, 3, 0, 0), 24)] 0 _ _ _ (by decide +kernel) (And.intro rfl (And.intro trivial (And.intro rfl (And.intro trivial (And.intro rfl (And.intro trivial (And.intro rfl (And.intro rfl (And.intro o0_ (sw_pick [1, 2, 3, 0] rfl k))))))))))
theorem B_X11_codesTell_24 {E : sw_E} {d : Nat} {σ : sw_St} {Q : Option Value → sw_St → Prop} {x1 : Int32} {x2 : Int32} {x3 : Int32} (o0_ : vp_in (3 + x1) 6) (kt : (σ.1 35 ((3 + x1).toNatClampNeg)) ≤ x3 → sw_W E sw_gM m_X11_codesTell d 155 [(0, .ref 0)] [] σ Q) (kf : ¬ (σ.1 35 ((3 + x1).toNatClampNeg)) ≤ x3 → sw_W E sw_gM m_X11_codesTell d 36 [(0, .ref 0), (1, .int x1), (2, .int x2), (3, .int x3)] [] σ Q) : sw_W E sw_gM m_X11_codesTell d 24 [(0, .ref 0), (1, .int x1), (2, .int x2), (3, .int x3)] [] σ Q :=
  sw_go [((.iload 0, 3, 0, 0), 25), ((.aload 0, 0, 0, 0), 26), ((.getfield 0, 11044, 0, 0), 29), ((.iconst 0, 0, 3, 0), 30), ((.iload 0, 1, 0, 0), 31), ((.iadd, 0, 0, 0), 32), ((.iaload, 0, 0, 0), 33), ((.if_icmp .ge 0, 155, 0, 0), 36)] 24 _ _ _ (by decide +kernel) (And.intro rfl (And.intro rfl (And.intro o0_ (And.intro (fun h => sw_pick [0] rfl (kt h)) (fun h => sw_pick [0, 1, 2, 3] rfl (kf h))))))
theorem B_X11_codesTell_36 {E : sw_E} {d : Nat} {σ : sw_St} {Q : Option Value → sw_St → Prop} {x1 : Int32} {x2 : Int32} {x3 : Int32} (o0_ : vp_in (1600 + x3) 3200) (kt : (σ.1 36 ((1600 + x3).toNatClampNeg)) < 1000 → sw_W E sw_gM m_X11_codesTell d 70 [(0, .ref 0), (1, .int x1), (2, .int x2), (3, .int x3), (4, .int (σ.1 36 ((1600 + x3).toNatClampNeg)))] [] σ Q) (kf : ¬ (σ.1 36 ((1600 + x3).toNatClampNeg)) < 1000 → sw_W E sw_gM m_X11_codesTell d 56 [(0, .ref 0), (1, .int x1), (2, .int x2), (3, .int x3), (4, .int (σ.1 36 ((1600 + x3).toNatClampNeg)))] [] σ Q) : sw_W E sw_gM m_X11_codesTell d 36 [(0, .ref 0), (1, .int x1), (2, .int x2), (3, .int x3)] [] σ Q :=
  sw_go [((.aload 0, 0, 0, 0), 37), ((.getfield 0, 11045, 0, 0), 40), ((.iconst 0, 0, 1600, 0), 43), ((.iload 0, 3, 0, 0), 44), ((.iadd, 0, 0, 0), 45), ((.iaload, 0, 0, 0), 46), ((.istore 0, 4, 0, 0), 48), ((.iload 0, 4, 0, 0), 50), ((.iconst 0, 0, 1000, 0), 53), ((.if_icmp .lt 0, 70, 0, 0), 56)] 36 _ _ _ (by decide +kernel) (And.intro rfl (And.intro rfl (And.intro o0_ (And.intro (fun h => sw_pick [1, 2, 3, 4, 0] rfl (kt h)) (fun h => sw_pick [1, 2, 3, 4, 0] rfl (kf h))))))
theorem B_X11_codesTell_56 {E : sw_E} {d : Nat} {σ : sw_St} {Q : Option Value → sw_St → Prop} {x1 : Int32} {x2 : Int32} {x3 : Int32} {x4 : Int32} {d1 : Nat} {Q1 : sw_St → Prop} (hM : sw_KV E sw_gM m_X11_qPuts d1 [.ref 0, .long ((x4 - 1000).toInt64)] σ Q1) (hdd : d1 < d) (k : ∀ s : sw_St, Q1 s → sw_W E sw_gM m_X11_codesTell d 67 [(0, .ref 0), (1, .int x1), (2, .int x2), (3, .int x3)] [] s Q) : sw_W E sw_gM m_X11_codesTell d 56 [(0, .ref 0), (1, .int x1), (2, .int x2), (3, .int x3), (4, .int x4)] [] σ Q :=
  sw_go [((.aload 0, 0, 0, 0), 57), ((.iload 0, 4, 0, 0), 59), ((.iconst 0, 0, 1000, 0), 62), ((.isub, 0, 0, 0), 63), ((.i2l, 0, 0, 0), 64)] 56 _ _ _ (by decide +kernel) (so_callV (N := m_X11_qPuts) (As := [.long ((x4 - 1000).toInt64)]) (st := []) (n := 1) (by decide +kernel) ln_11_421 mk_X11_qPuts rfl (by decide) (by decide +kernel) rfl rfl (by decide) hdd hM (fun r s h => by obtain ⟨rfl, h⟩ := h; exact sw_pick [0, 1, 2, 3] rfl (k s h)))
theorem B_X11_codesTell_67 {E : sw_E} {d : Nat} {σ : sw_St} {Q : Option Value → sw_St → Prop} {x1 : Int32} {x2 : Int32} {x3 : Int32} (k : sw_W E sw_gM m_X11_codesTell d 149 [(0, .ref 0), (1, .int x1), (2, .int x2), (3, .int x3)] [] σ Q) : sw_W E sw_gM m_X11_codesTell d 67 [(0, .ref 0), (1, .int x1), (2, .int x2), (3, .int x3)] [] σ Q :=
  sw_go [((.goto 0, 149, 0, 0), 149)] 67 _ _ _ (by decide +kernel) (sw_pick [0, 1, 2, 3] rfl k)
theorem B_X11_codesTell_70 {E : sw_E} {d : Nat} {σ : sw_St} {Q : Option Value → sw_St → Prop} {x1 : Int32} {x2 : Int32} {x3 : Int32} {x4 : Int32} (kt : x4 < 40 → sw_W E sw_gM m_X11_codesTell d 94 [(0, .ref 0), (1, .int x1), (2, .int x2), (3, .int x3), (4, .int x4)] [] σ Q) (kf : ¬ x4 < 40 → sw_W E sw_gM m_X11_codesTell d 77 [(0, .ref 0), (1, .int x1), (2, .int x2), (3, .int x3), (4, .int x4)] [] σ Q) : sw_W E sw_gM m_X11_codesTell d 70 [(0, .ref 0), (1, .int x1), (2, .int x2), (3, .int x3), (4, .int x4)] [] σ Q :=
  sw_go [((.iload 0, 4, 0, 0), 72), ((.iconst 0, 0, 40, 0), 74), ((.if_icmp .lt 0, 94, 0, 0), 77)] 70 _ _ _ (by decide +kernel) (And.intro (fun h => sw_pick [0, 1, 2, 3, 4] rfl (kt h)) (fun h => sw_pick [0, 1, 2, 3, 4] rfl (kf h)))
theorem B_X11_codesTell_77 {E : sw_E} {d : Nat} {σ : sw_St} {Q : Option Value → sw_St → Prop} {x1 : Int32} {x2 : Int32} {x3 : Int32} {x4 : Int32} {d1 : Nat} {Q1 : Int64 → sw_St → Prop} (hM : sw_KL E sw_gM m_X11_qPartOf d1 [.ref 0, .int (x4 - 40), .int x2] σ Q1) (hdd : d1 < d) (k : ∀ (v : Int64) (s : sw_St), Q1 v s → sw_W E sw_gM m_X11_codesTell d 88 [(0, .ref 0), (1, .int x1), (2, .int x2), (3, .int x3)] (.long v :: [.ref 0]) s Q) : sw_W E sw_gM m_X11_codesTell d 77 [(0, .ref 0), (1, .int x1), (2, .int x2), (3, .int x3), (4, .int x4)] [] σ Q :=
  sw_go [((.aload 0, 0, 0, 0), 78), ((.aload 0, 0, 0, 0), 79), ((.iload 0, 4, 0, 0), 81), ((.iconst 0, 0, 40, 0), 83), ((.isub, 0, 0, 0), 84), ((.iload 0, 2, 0, 0), 85)] 77 _ _ _ (by decide +kernel) (so_callV (N := m_X11_qPartOf) (As := [.int (x4 - 40), .int x2]) (st := [.ref 0]) (n := 2) (by decide +kernel) ln_11_425 mk_X11_qPartOf rfl (by decide) (by decide +kernel) rfl rfl (by decide) hdd hM (fun r s h => by obtain ⟨v, rfl, h⟩ := h; exact sw_pick [0, 1, 2, 3] rfl (k v s h)))
theorem B_X11_codesTell_88 {E : sw_E} {d : Nat} {σ : sw_St} {Q : Option Value → sw_St → Prop} {x1 : Int32} {x2 : Int32} {x3 : Int32} {sy0 : Int64} {d1 : Nat} {Q1 : sw_St → Prop} (hM : sw_KV E sw_gM m_X11_qPuts d1 [.ref 0, .long sy0] σ Q1) (hdd : d1 < d) (k : ∀ s : sw_St, Q1 s → sw_W E sw_gM m_X11_codesTell d 91 [(0, .ref 0), (1, .int x1), (2, .int x2), (3, .int x3)] [] s Q) : sw_W E sw_gM m_X11_codesTell d 88 [(0, .ref 0), (1, .int x1), (2, .int x2), (3, .int x3)] [.long sy0, .ref 0] σ Q :=
  sw_go [] 88 _ _ _ (by decide +kernel) (so_callV (N := m_X11_qPuts) (As := [.long sy0]) (st := []) (n := 1) (by decide +kernel) ln_11_421 mk_X11_qPuts rfl (by decide) (by decide +kernel) rfl rfl (by decide) hdd hM (fun r s h => by obtain ⟨rfl, h⟩ := h; exact sw_pick [0, 1, 2, 3] rfl (k s h)))
theorem B_X11_codesTell_91 {E : sw_E} {d : Nat} {σ : sw_St} {Q : Option Value → sw_St → Prop} {x1 : Int32} {x2 : Int32} {x3 : Int32} (k : sw_W E sw_gM m_X11_codesTell d 149 [(0, .ref 0), (1, .int x1), (2, .int x2), (3, .int x3)] [] σ Q) : sw_W E sw_gM m_X11_codesTell d 91 [(0, .ref 0), (1, .int x1), (2, .int x2), (3, .int x3)] [] σ Q :=
  sw_go [((.goto 0, 149, 0, 0), 149)] 91 _ _ _ (by decide +kernel) (sw_pick [0, 1, 2, 3] rfl k)
theorem B_X11_codesTell_94 {E : sw_E} {d : Nat} {σ : sw_St} {Q : Option Value → sw_St → Prop} {x1 : Int32} {x2 : Int32} {x3 : Int32} {x4 : Int32} (kt : ¬ x4 = 13 → sw_W E sw_gM m_X11_codesTell d 109 [(0, .ref 0), (1, .int x1), (2, .int x2), (3, .int x3), (4, .int x4)] [] σ Q) (kf : x4 = 13 → sw_W E sw_gM m_X11_codesTell d 101 [(0, .ref 0), (1, .int x1), (2, .int x2), (3, .int x3)] [] σ Q) : sw_W E sw_gM m_X11_codesTell d 94 [(0, .ref 0), (1, .int x1), (2, .int x2), (3, .int x3), (4, .int x4)] [] σ Q :=
  sw_go [((.iload 0, 4, 0, 0), 96), ((.iconst 0, 0, 13, 0), 98), ((.if_icmp .ne 0, 109, 0, 0), 101)] 94 _ _ _ (by decide +kernel) (And.intro (fun h => sw_pick [0, 1, 2, 3, 4] rfl (kt h)) (fun h => sw_pick [0, 1, 2, 3] rfl (kf h)))
theorem B_X11_codesTell_101 {E : sw_E} {d : Nat} {σ : sw_St} {Q : Option Value → sw_St → Prop} {x1 : Int32} {x2 : Int32} {x3 : Int32} {d1 : Nat} {Q1 : sw_St → Prop} (hM : sw_KV E sw_gM m_X11_qPuts d1 [.ref 0, .long 1] σ Q1) (hdd : d1 < d) (k : ∀ s : sw_St, Q1 s → sw_W E sw_gM m_X11_codesTell d 106 [(0, .ref 0), (1, .int x1), (2, .int x2), (3, .int x3)] [] s Q) : sw_W E sw_gM m_X11_codesTell d 101 [(0, .ref 0), (1, .int x1), (2, .int x2), (3, .int x3)] [] σ Q :=
  sw_go [((.aload 0, 0, 0, 0), 102), ((.lconst 0, 0, 0, 1), 103)] 101 _ _ _ (by decide +kernel) (so_callV (N := m_X11_qPuts) (As := [.long 1]) (st := []) (n := 1) (by decide +kernel) ln_11_421 mk_X11_qPuts rfl (by decide) (by decide +kernel) rfl rfl (by decide) hdd hM (fun r s h => by obtain ⟨rfl, h⟩ := h; exact sw_pick [0, 1, 2, 3] rfl (k s h)))
theorem B_X11_codesTell_106 {E : sw_E} {d : Nat} {σ : sw_St} {Q : Option Value → sw_St → Prop} {x1 : Int32} {x2 : Int32} {x3 : Int32} (k : sw_W E sw_gM m_X11_codesTell d 149 [(0, .ref 0), (1, .int x1), (2, .int x2), (3, .int x3)] [] σ Q) : sw_W E sw_gM m_X11_codesTell d 106 [(0, .ref 0), (1, .int x1), (2, .int x2), (3, .int x3)] [] σ Q :=
  sw_go [((.goto 0, 149, 0, 0), 149)] 106 _ _ _ (by decide +kernel) (sw_pick [0, 1, 2, 3] rfl k)
theorem B_X11_codesTell_109 {E : sw_E} {d : Nat} {σ : sw_St} {Q : Option Value → sw_St → Prop} {x1 : Int32} {x2 : Int32} {x3 : Int32} {x4 : Int32} (kt : ¬ x4 = 12 → sw_W E sw_gM m_X11_codesTell d 143 [(0, .ref 0), (1, .int x1), (2, .int x2), (3, .int x3), (4, .int x4)] [] σ Q) (kf : x4 = 12 → sw_W E sw_gM m_X11_codesTell d 116 [(0, .ref 0), (1, .int x1), (2, .int x2), (3, .int x3)] [] σ Q) : sw_W E sw_gM m_X11_codesTell d 109 [(0, .ref 0), (1, .int x1), (2, .int x2), (3, .int x3), (4, .int x4)] [] σ Q :=
  sw_go [((.iload 0, 4, 0, 0), 111), ((.iconst 0, 0, 12, 0), 113), ((.if_icmp .ne 0, 143, 0, 0), 116)] 109 _ _ _ (by decide +kernel) (And.intro (fun h => sw_pick [0, 1, 2, 3, 4] rfl (kt h)) (fun h => sw_pick [0, 1, 2, 3] rfl (kf h)))
theorem B_X11_codesTell_116 {E : sw_E} {d : Nat} {σ : sw_St} {Q : Option Value → sw_St → Prop} {x1 : Int32} {x2 : Int32} {x3 : Int32} (o0_ : vp_in ((σ.1 0 101) - 1) 1700) (o1_ : vp_in ((σ.1 0 101) - 1) 1700) (k : sw_W E sw_gM m_X11_codesTell d 149 [(0, .ref 0), (1, .int x1), (2, .int x2), (3, .int x3)] [] (sw_uL σ 73 (((σ.1 0 101) - 1).toNatClampNeg) (1 - (σ.2.1 73 (((σ.1 0 101) - 1).toNatClampNeg)))) Q) : sw_W E sw_gM m_X11_codesTell d 116 [(0, .ref 0), (1, .int x1), (2, .int x2), (3, .int x3)] [] σ Q :=
  sw_go [((.aload 0, 0, 0, 0), 117), ((.getfield 0, 11100, 0, 0), 120), ((.aload 0, 0, 0, 0), 121), ((.getfield 0, 11101, 0, 0), 124), ((.iconst 0, 0, 1, 0), 125), ((.isub, 0, 0, 0), 126), ((.lconst 0, 0, 0, 1), 127), ((.aload 0, 0, 0, 0), 128), ((.getfield 0, 11100, 0, 0), 131), ((.aload 0, 0, 0, 0), 132), ((.getfield 0, 11101, 0, 0), 135), ((.iconst 0, 0, 1, 0), 136), ((.isub, 0, 0, 0), 137), ((.laload, 0, 0, 0), 138), ((.lsub, 0, 0, 0), 139), ((.lastore, 0, 0, 0), 140), ((.goto 0, 149, 0, 0), 149)] 116 _ _ _ (by decide +kernel) (And.intro rfl (And.intro rfl (And.intro rfl (And.intro rfl (And.intro rfl (And.intro o0_ (And.intro rfl (And.intro o1_ (sw_pick [0, 1, 2, 3] rfl k)))))))))
theorem B_X11_codesTell_143 {E : sw_E} {d : Nat} {σ : sw_St} {Q : Option Value → sw_St → Prop} {x1 : Int32} {x2 : Int32} {x3 : Int32} {x4 : Int32} {d1 : Nat} {Q1 : sw_St → Prop} (hM : sw_KV E sw_gM m_X11_qJoins d1 [.ref 0, .int x4] σ Q1) (hdd : d1 < d) (k : ∀ s : sw_St, Q1 s → sw_W E sw_gM m_X11_codesTell d 149 [(0, .ref 0), (1, .int x1), (2, .int x2), (3, .int x3)] [] s Q) : sw_W E sw_gM m_X11_codesTell d 143 [(0, .ref 0), (1, .int x1), (2, .int x2), (3, .int x3), (4, .int x4)] [] σ Q :=
  sw_go [((.aload 0, 0, 0, 0), 144), ((.iload 0, 4, 0, 0), 146)] 143 _ _ _ (by decide +kernel) (so_callV (N := m_X11_qJoins) (As := [.int x4]) (st := []) (n := 1) (by decide +kernel) ln_11_429 mk_X11_qJoins rfl (by decide) (by decide +kernel) rfl rfl (by decide) hdd hM (fun r s h => by obtain ⟨rfl, h⟩ := h; exact sw_pick [0, 1, 2, 3] rfl (k s h)))
theorem B_X11_codesTell_149 {E : sw_E} {d : Nat} {σ : sw_St} {Q : Option Value → sw_St → Prop} {x1 : Int32} {x2 : Int32} {x3 : Int32} (k : sw_W E sw_gM m_X11_codesTell d 24 [(0, .ref 0), (1, .int x1), (2, .int x2), (3, .int (x3 + 1))] [] σ Q) : sw_W E sw_gM m_X11_codesTell d 149 [(0, .ref 0), (1, .int x1), (2, .int x2), (3, .int x3)] [] σ Q :=
  sw_go [((.iinc 0 0, 3, 1, 0), 152), ((.goto 0, 24, 0, 0), 24)] 149 _ _ _ (by decide +kernel) (sw_pick [1, 2, 3, 0] rfl k)
theorem B_X11_codesTell_155 {E : sw_E} {d : Nat} {σ : sw_St} {Q : Option Value → sw_St → Prop} (hq : Q (some (.long (σ.2.1 73 0))) σ) : sw_W E sw_gM m_X11_codesTell d 155 [(0, .ref 0)] [] σ Q :=
  sw_go [((.aload 0, 0, 0, 0), 156), ((.getfield 0, 11100, 0, 0), 159), ((.iconst 0, 0, 0, 0), 160), ((.laload, 0, 0, 0), 161)] 155 _ _ _ (by decide +kernel) (And.intro rfl (And.intro rfl (And.intro (by unfold vp_in; decide) (so_lreturn (by decide +kernel) rfl hq))))
end

section
-- ===== PART A: goes FIRST, ahead of the names: the tables' words, and 'selects' of the private methods out of them =====
/-- a private method of a class that the tables say can be made, by its rows of tables_1 -/
def lw_okq (q : MethodName × Nat) : Prop := (q.1.cls ≠ "java/lang/invoke/MethodHandle" ∧ q.1.cls ≠ "java/lang/invoke/VarHandle") ∧ Cond.instantiable q.1.cls q.2 ∈ tables_1 ∧ Cond.privateMethod q.1 ∈ tables_1 ∧ Cond.instanceMethod q.1 ∈ tables_1
theorem lw_p0 : lw_okq (⟨"JoinedTrees", "argumentBytes", "()I"⟩, 13) := ⟨⟨by decide +kernel, by decide +kernel⟩, List.mem_of_getElem? (i := 29) (by decide +kernel), List.mem_of_getElem? (i := 474) (by decide +kernel), List.mem_of_getElem? (i := 475) (by decide +kernel)⟩
theorem lw_p1 : lw_okq (⟨"java/lang/Throwable", "fillInStackTrace", "(I)Ljava/lang/Throwable;"⟩, 6) := ⟨⟨by decide +kernel, by decide +kernel⟩, List.mem_of_getElem? (i := 518) (by decide +kernel), List.mem_of_getElem? (i := 516) (by decide +kernel), List.mem_of_getElem? (i := 517) (by decide +kernel)⟩
theorem lw_p2 : lw_okq (⟨"JoinedTrees", "takeArguments", "()I"⟩, 13) := ⟨⟨by decide +kernel, by decide +kernel⟩, List.mem_of_getElem? (i := 29) (by decide +kernel), List.mem_of_getElem? (i := 587) (by decide +kernel), List.mem_of_getElem? (i := 588) (by decide +kernel)⟩
theorem lw_p3 : lw_okq (⟨"JoinedTrees", "shown", "(I)LJoinedTrees$Replica;"⟩, 13) := ⟨⟨by decide +kernel, by decide +kernel⟩, List.mem_of_getElem? (i := 29) (by decide +kernel), List.mem_of_getElem? (i := 591) (by decide +kernel), List.mem_of_getElem? (i := 592) (by decide +kernel)⟩
theorem lw_p4 : lw_okq (⟨"JoinedTrees", "needValue", "(III)V"⟩, 13) := ⟨⟨by decide +kernel, by decide +kernel⟩, List.mem_of_getElem? (i := 29) (by decide +kernel), List.mem_of_getElem? (i := 602) (by decide +kernel), List.mem_of_getElem? (i := 603) (by decide +kernel)⟩
theorem lw_p5 : lw_okq (⟨"JoinedTrees", "needKey", "()V"⟩, 13) := ⟨⟨by decide +kernel, by decide +kernel⟩, List.mem_of_getElem? (i := 29) (by decide +kernel), List.mem_of_getElem? (i := 606) (by decide +kernel), List.mem_of_getElem? (i := 607) (by decide +kernel)⟩
theorem lw_p6 : lw_okq (⟨"JoinedTrees", "mapAt", "(I)LJoinedTrees$Op;"⟩, 13) := ⟨⟨by decide +kernel, by decide +kernel⟩, List.mem_of_getElem? (i := 29) (by decide +kernel), List.mem_of_getElem? (i := 610) (by decide +kernel), List.mem_of_getElem? (i := 611) (by decide +kernel)⟩
theorem lw_p7 : lw_okq (⟨"JoinedTrees", "objectAt", "(I)LJoinedTrees$Op;"⟩, 13) := ⟨⟨by decide +kernel, by decide +kernel⟩, List.mem_of_getElem? (i := 29) (by decide +kernel), List.mem_of_getElem? (i := 614) (by decide +kernel), List.mem_of_getElem? (i := 615) (by decide +kernel)⟩
theorem lw_p8 : lw_okq (⟨"JoinedTrees", "needAll", "(LJoinedTrees$Replica;)V"⟩, 13) := ⟨⟨by decide +kernel, by decide +kernel⟩, List.mem_of_getElem? (i := 29) (by decide +kernel), List.mem_of_getElem? (i := 645) (by decide +kernel), List.mem_of_getElem? (i := 646) (by decide +kernel)⟩
theorem lw_p9 : lw_okq (⟨"JoinedTrees", "needRoom", "(II)V"⟩, 13) := ⟨⟨by decide +kernel, by decide +kernel⟩, List.mem_of_getElem? (i := 29) (by decide +kernel), List.mem_of_getElem? (i := 667) (by decide +kernel), List.mem_of_getElem? (i := 668) (by decide +kernel)⟩
theorem lw_p10 : lw_okq (⟨"JoinedTrees", "writeAtKey", "(LJoinedTrees$Replica;LJoinedTrees$Op;LJoinedTrees$Row;IIIJ)LJoinedTrees$Op;"⟩, 13) := ⟨⟨by decide +kernel, by decide +kernel⟩, List.mem_of_getElem? (i := 29) (by decide +kernel), List.mem_of_getElem? (i := 671) (by decide +kernel), List.mem_of_getElem? (i := 672) (by decide +kernel)⟩
theorem lw_p11 : lw_okq (⟨"JoinedTrees", "writeOn", "(LJoinedTrees$Replica;LJoinedTrees$Spot;IJ)LJoinedTrees$Op;"⟩, 13) := ⟨⟨by decide +kernel, by decide +kernel⟩, List.mem_of_getElem? (i := 29) (by decide +kernel), List.mem_of_getElem? (i := 691) (by decide +kernel), List.mem_of_getElem? (i := 692) (by decide +kernel)⟩
theorem lw_p12 : lw_okq (⟨"JoinedTrees", "giveString", "(LJoinedTrees$Op;LJoinedTrees$Row;)V"⟩, 13) := ⟨⟨by decide +kernel, by decide +kernel⟩, List.mem_of_getElem? (i := 29) (by decide +kernel), List.mem_of_getElem? (i := 759) (by decide +kernel), List.mem_of_getElem? (i := 760) (by decide +kernel)⟩
theorem lw_p13 : lw_okq (⟨"JoinedTrees", "listAt", "(I)LJoinedTrees$Op;"⟩, 13) := ⟨⟨by decide +kernel, by decide +kernel⟩, List.mem_of_getElem? (i := 29) (by decide +kernel), List.mem_of_getElem? (i := 774) (by decide +kernel), List.mem_of_getElem? (i := 775) (by decide +kernel)⟩
theorem lw_p14 : lw_okq (⟨"JoinedTrees", "needSpot", "(LJoinedTrees$Spot;)V"⟩, 13) := ⟨⟨by decide +kernel, by decide +kernel⟩, List.mem_of_getElem? (i := 29) (by decide +kernel), List.mem_of_getElem? (i := 787) (by decide +kernel), List.mem_of_getElem? (i := 788) (by decide +kernel)⟩
theorem lw_p15 : lw_okq (⟨"JoinedTrees", "elementBefore", "(LJoinedTrees$Op;I)LJoinedTrees$Op;"⟩, 13) := ⟨⟨by decide +kernel, by decide +kernel⟩, List.mem_of_getElem? (i := 29) (by decide +kernel), List.mem_of_getElem? (i := 798) (by decide +kernel), List.mem_of_getElem? (i := 799) (by decide +kernel)⟩
def lw_privs_1 : List (MethodName × Nat) := [(⟨"JoinedTrees", "argumentBytes", "()I"⟩, 13), (⟨"java/lang/Throwable", "fillInStackTrace", "(I)Ljava/lang/Throwable;"⟩, 6), (⟨"JoinedTrees", "takeArguments", "()I"⟩, 13), (⟨"JoinedTrees", "shown", "(I)LJoinedTrees$Replica;"⟩, 13), (⟨"JoinedTrees", "needValue", "(III)V"⟩, 13), (⟨"JoinedTrees", "needKey", "()V"⟩, 13), (⟨"JoinedTrees", "mapAt", "(I)LJoinedTrees$Op;"⟩, 13), (⟨"JoinedTrees", "objectAt", "(I)LJoinedTrees$Op;"⟩, 13), (⟨"JoinedTrees", "needAll", "(LJoinedTrees$Replica;)V"⟩, 13), (⟨"JoinedTrees", "needRoom", "(II)V"⟩, 13), (⟨"JoinedTrees", "writeAtKey", "(LJoinedTrees$Replica;LJoinedTrees$Op;LJoinedTrees$Row;IIIJ)LJoinedTrees$Op;"⟩, 13), (⟨"JoinedTrees", "writeOn", "(LJoinedTrees$Replica;LJoinedTrees$Spot;IJ)LJoinedTrees$Op;"⟩, 13), (⟨"JoinedTrees", "giveString", "(LJoinedTrees$Op;LJoinedTrees$Row;)V"⟩, 13), (⟨"JoinedTrees", "listAt", "(I)LJoinedTrees$Op;"⟩, 13), (⟨"JoinedTrees", "needSpot", "(LJoinedTrees$Spot;)V"⟩, 13), (⟨"JoinedTrees", "elementBefore", "(LJoinedTrees$Op;I)LJoinedTrees$Op;"⟩, 13)]
theorem lw_r1 : ∀ q ∈ lw_privs_1, lw_okq q := List.forall_mem_cons.mpr ⟨lw_p0, List.forall_mem_cons.mpr ⟨lw_p1, List.forall_mem_cons.mpr ⟨lw_p2, List.forall_mem_cons.mpr ⟨lw_p3, List.forall_mem_cons.mpr ⟨lw_p4, List.forall_mem_cons.mpr ⟨lw_p5, List.forall_mem_cons.mpr ⟨lw_p6, List.forall_mem_cons.mpr ⟨lw_p7, List.forall_mem_cons.mpr ⟨lw_p8, List.forall_mem_cons.mpr ⟨lw_p9, List.forall_mem_cons.mpr ⟨lw_p10, List.forall_mem_cons.mpr ⟨lw_p11, List.forall_mem_cons.mpr ⟨lw_p12, List.forall_mem_cons.mpr ⟨lw_p13, List.forall_mem_cons.mpr ⟨lw_p14, List.forall_mem_cons.mpr ⟨lw_p15, fun _ h => absurd h List.not_mem_nil⟩⟩⟩⟩⟩⟩⟩⟩⟩⟩⟩⟩⟩⟩⟩⟩
theorem lw_p16 : lw_okq (⟨"JoinedTrees", "writeBehind", "(LJoinedTrees$Replica;LJoinedTrees$Op;LJoinedTrees$Op;IJ)LJoinedTrees$Op;"⟩, 13) := ⟨⟨by decide +kernel, by decide +kernel⟩, List.mem_of_getElem? (i := 29) (by decide +kernel), List.mem_of_getElem? (i := 802) (by decide +kernel), List.mem_of_getElem? (i := 803) (by decide +kernel)⟩
theorem lw_p17 : lw_okq (⟨"JoinedTrees", "eraseRun", "(LJoinedTrees$Replica;LJoinedTrees$Spot;I)V"⟩, 13) := ⟨⟨by decide +kernel, by decide +kernel⟩, List.mem_of_getElem? (i := 29) (by decide +kernel), List.mem_of_getElem? (i := 825) (by decide +kernel), List.mem_of_getElem? (i := 826) (by decide +kernel)⟩
theorem lw_p18 : lw_okq (⟨"JoinedTrees", "insertRun", "(LJoinedTrees$Replica;LJoinedTrees$Op;LJoinedTrees$Op;)V"⟩, 13) := ⟨⟨by decide +kernel, by decide +kernel⟩, List.mem_of_getElem? (i := 29) (by decide +kernel), List.mem_of_getElem? (i := 830) (by decide +kernel), List.mem_of_getElem? (i := 831) (by decide +kernel)⟩
theorem lw_p19 : lw_okq (⟨"JoinedTrees", "needPlace", "(II)V"⟩, 13) := ⟨⟨by decide +kernel, by decide +kernel⟩, List.mem_of_getElem? (i := 29) (by decide +kernel), List.mem_of_getElem? (i := 841) (by decide +kernel), List.mem_of_getElem? (i := 842) (by decide +kernel)⟩
theorem lw_p20 : lw_okq (⟨"JoinedTrees", "placeAt", "(II)LJoinedTrees$Spot;"⟩, 13) := ⟨⟨by decide +kernel, by decide +kernel⟩, List.mem_of_getElem? (i := 29) (by decide +kernel), List.mem_of_getElem? (i := 845) (by decide +kernel), List.mem_of_getElem? (i := 846) (by decide +kernel)⟩
theorem lw_p21 : lw_okq (⟨"JoinedTrees", "writeValues", "(LJoinedTrees$Replica;LJoinedTrees$Op;)I"⟩, 13) := ⟨⟨by decide +kernel, by decide +kernel⟩, List.mem_of_getElem? (i := 29) (by decide +kernel), List.mem_of_getElem? (i := 981) (by decide +kernel), List.mem_of_getElem? (i := 982) (by decide +kernel)⟩
theorem lw_p22 : lw_okq (⟨"JoinedTrees", "needNoneOpen", "(LJoinedTrees$Replica;)V"⟩, 13) := ⟨⟨by decide +kernel, by decide +kernel⟩, List.mem_of_getElem? (i := 29) (by decide +kernel), List.mem_of_getElem? (i := 1085) (by decide +kernel), List.mem_of_getElem? (i := 1086) (by decide +kernel)⟩
theorem lw_p23 : lw_okq (⟨"JoinedTrees", "isPath", "()Z"⟩, 13) := ⟨⟨by decide +kernel, by decide +kernel⟩, List.mem_of_getElem? (i := 29) (by decide +kernel), List.mem_of_getElem? (i := 1182) (by decide +kernel), List.mem_of_getElem? (i := 1183) (by decide +kernel)⟩
theorem lw_p24 : lw_okq (⟨"JoinedTrees", "stepEnd", "(I)I"⟩, 13) := ⟨⟨by decide +kernel, by decide +kernel⟩, List.mem_of_getElem? (i := 29) (by decide +kernel), List.mem_of_getElem? (i := 1186) (by decide +kernel), List.mem_of_getElem? (i := 1187) (by decide +kernel)⟩
theorem lw_p25 : lw_okq (⟨"JoinedTrees", "keyEnd", "(I)I"⟩, 13) := ⟨⟨by decide +kernel, by decide +kernel⟩, List.mem_of_getElem? (i := 29) (by decide +kernel), List.mem_of_getElem? (i := 1190) (by decide +kernel), List.mem_of_getElem? (i := 1191) (by decide +kernel)⟩
theorem lw_p26 : lw_okq (⟨"JoinedTrees", "indexEnd", "(I)I"⟩, 13) := ⟨⟨by decide +kernel, by decide +kernel⟩, List.mem_of_getElem? (i := 29) (by decide +kernel), List.mem_of_getElem? (i := 1198) (by decide +kernel), List.mem_of_getElem? (i := 1199) (by decide +kernel)⟩
theorem lw_p27 : lw_okq (⟨"JoinedTrees", "elementOf", "(LJoinedTrees$Op;II)LJoinedTrees$Op;"⟩, 13) := ⟨⟨by decide +kernel, by decide +kernel⟩, List.mem_of_getElem? (i := 29) (by decide +kernel), List.mem_of_getElem? (i := 1202) (by decide +kernel), List.mem_of_getElem? (i := 1203) (by decide +kernel)⟩
theorem lw_p28 : lw_okq (⟨"JoinedTrees", "keyOf", "(LJoinedTrees$Op;II)LJoinedTrees$Op;"⟩, 13) := ⟨⟨by decide +kernel, by decide +kernel⟩, List.mem_of_getElem? (i := 29) (by decide +kernel), List.mem_of_getElem? (i := 1206) (by decide +kernel), List.mem_of_getElem? (i := 1207) (by decide +kernel)⟩
theorem lw_p29 : lw_okq (⟨"JoinedTreesModel", "no", "(I)I"⟩, 77) := ⟨⟨by decide +kernel, by decide +kernel⟩, List.mem_of_getElem? (i := 1371) (by decide +kernel), List.mem_of_getElem? (i := 1624) (by decide +kernel), List.mem_of_getElem? (i := 1625) (by decide +kernel)⟩
theorem lw_p30 : lw_okq (⟨"JoinedTreesModel", "taken", "()I"⟩, 77) := ⟨⟨by decide +kernel, by decide +kernel⟩, List.mem_of_getElem? (i := 1371) (by decide +kernel), List.mem_of_getElem? (i := 1636) (by decide +kernel), List.mem_of_getElem? (i := 1637) (by decide +kernel)⟩
theorem lw_p31 : lw_okq (⟨"JoinedTreesModel", "kindOf", "(II)I"⟩, 77) := ⟨⟨by decide +kernel, by decide +kernel⟩, List.mem_of_getElem? (i := 1371) (by decide +kernel), List.mem_of_getElem? (i := 1646) (by decide +kernel), List.mem_of_getElem? (i := 1647) (by decide +kernel)⟩
def lw_privs_2 : List (MethodName × Nat) := [(⟨"JoinedTrees", "writeBehind", "(LJoinedTrees$Replica;LJoinedTrees$Op;LJoinedTrees$Op;IJ)LJoinedTrees$Op;"⟩, 13), (⟨"JoinedTrees", "eraseRun", "(LJoinedTrees$Replica;LJoinedTrees$Spot;I)V"⟩, 13), (⟨"JoinedTrees", "insertRun", "(LJoinedTrees$Replica;LJoinedTrees$Op;LJoinedTrees$Op;)V"⟩, 13), (⟨"JoinedTrees", "needPlace", "(II)V"⟩, 13), (⟨"JoinedTrees", "placeAt", "(II)LJoinedTrees$Spot;"⟩, 13), (⟨"JoinedTrees", "writeValues", "(LJoinedTrees$Replica;LJoinedTrees$Op;)I"⟩, 13), (⟨"JoinedTrees", "needNoneOpen", "(LJoinedTrees$Replica;)V"⟩, 13), (⟨"JoinedTrees", "isPath", "()Z"⟩, 13), (⟨"JoinedTrees", "stepEnd", "(I)I"⟩, 13), (⟨"JoinedTrees", "keyEnd", "(I)I"⟩, 13), (⟨"JoinedTrees", "indexEnd", "(I)I"⟩, 13), (⟨"JoinedTrees", "elementOf", "(LJoinedTrees$Op;II)LJoinedTrees$Op;"⟩, 13), (⟨"JoinedTrees", "keyOf", "(LJoinedTrees$Op;II)LJoinedTrees$Op;"⟩, 13), (⟨"JoinedTreesModel", "no", "(I)I"⟩, 77), (⟨"JoinedTreesModel", "taken", "()I"⟩, 77), (⟨"JoinedTreesModel", "kindOf", "(II)I"⟩, 77)]
theorem lw_r2 : ∀ q ∈ lw_privs_2, lw_okq q := List.forall_mem_cons.mpr ⟨lw_p16, List.forall_mem_cons.mpr ⟨lw_p17, List.forall_mem_cons.mpr ⟨lw_p18, List.forall_mem_cons.mpr ⟨lw_p19, List.forall_mem_cons.mpr ⟨lw_p20, List.forall_mem_cons.mpr ⟨lw_p21, List.forall_mem_cons.mpr ⟨lw_p22, List.forall_mem_cons.mpr ⟨lw_p23, List.forall_mem_cons.mpr ⟨lw_p24, List.forall_mem_cons.mpr ⟨lw_p25, List.forall_mem_cons.mpr ⟨lw_p26, List.forall_mem_cons.mpr ⟨lw_p27, List.forall_mem_cons.mpr ⟨lw_p28, List.forall_mem_cons.mpr ⟨lw_p29, List.forall_mem_cons.mpr ⟨lw_p30, List.forall_mem_cons.mpr ⟨lw_p31, fun _ h => absurd h List.not_mem_nil⟩⟩⟩⟩⟩⟩⟩⟩⟩⟩⟩⟩⟩⟩⟩⟩
theorem lw_p32 : lw_okq (⟨"JoinedTreesModel", "maker", "(II)I"⟩, 77) := ⟨⟨by decide +kernel, by decide +kernel⟩, List.mem_of_getElem? (i := 1371) (by decide +kernel), List.mem_of_getElem? (i := 1650) (by decide +kernel), List.mem_of_getElem? (i := 1651) (by decide +kernel)⟩
theorem lw_p33 : lw_okq (⟨"JoinedTreesModel", "in", "(II)Z"⟩, 77) := ⟨⟨by decide +kernel, by decide +kernel⟩, List.mem_of_getElem? (i := 1371) (by decide +kernel), List.mem_of_getElem? (i := 1654) (by decide +kernel), List.mem_of_getElem? (i := 1655) (by decide +kernel)⟩
theorem lw_p34 : lw_okq (⟨"JoinedTreesModel", "full", "(II)Z"⟩, 77) := ⟨⟨by decide +kernel, by decide +kernel⟩, List.mem_of_getElem? (i := 1371) (by decide +kernel), List.mem_of_getElem? (i := 1658) (by decide +kernel), List.mem_of_getElem? (i := 1659) (by decide +kernel)⟩
theorem lw_p35 : lw_okq (⟨"JoinedTreesModel", "setKey", "(II[BIIIJ[BII)I"⟩, 77) := ⟨⟨by decide +kernel, by decide +kernel⟩, List.mem_of_getElem? (i := 1371) (by decide +kernel), List.mem_of_getElem? (i := 1662) (by decide +kernel), List.mem_of_getElem? (i := 1663) (by decide +kernel)⟩
theorem lw_p36 : lw_okq (⟨"JoinedTreesModel", "keyCandidates", "(II[BII)V"⟩, 77) := ⟨⟨by decide +kernel, by decide +kernel⟩, List.mem_of_getElem? (i := 1371) (by decide +kernel), List.mem_of_getElem? (i := 1666) (by decide +kernel), List.mem_of_getElem? (i := 1667) (by decide +kernel)⟩
theorem lw_p37 : lw_okq (⟨"JoinedTreesModel", "hide", "(I)V"⟩, 77) := ⟨⟨by decide +kernel, by decide +kernel⟩, List.mem_of_getElem? (i := 1371) (by decide +kernel), List.mem_of_getElem? (i := 1670) (by decide +kernel), List.mem_of_getElem? (i := 1671) (by decide +kernel)⟩
theorem lw_p38 : lw_okq (⟨"JoinedTreesModel", "visible", "(II)Z"⟩, 77) := ⟨⟨by decide +kernel, by decide +kernel⟩, List.mem_of_getElem? (i := 1371) (by decide +kernel), List.mem_of_getElem? (i := 1674) (by decide +kernel), List.mem_of_getElem? (i := 1675) (by decide +kernel)⟩
theorem lw_p39 : lw_okq (⟨"JoinedTreesModel", "sameKey", "(I[BII)Z"⟩, 77) := ⟨⟨by decide +kernel, by decide +kernel⟩, List.mem_of_getElem? (i := 1371) (by decide +kernel), List.mem_of_getElem? (i := 1678) (by decide +kernel), List.mem_of_getElem? (i := 1679) (by decide +kernel)⟩
theorem lw_p40 : lw_okq (⟨"JoinedTreesModel", "make", "(IIIJ)I"⟩, 77) := ⟨⟨by decide +kernel, by decide +kernel⟩, List.mem_of_getElem? (i := 1371) (by decide +kernel), List.mem_of_getElem? (i := 1682) (by decide +kernel), List.mem_of_getElem? (i := 1683) (by decide +kernel)⟩
theorem lw_p41 : lw_okq (⟨"JoinedTreesModel", "greatest", "(I)I"⟩, 77) := ⟨⟨by decide +kernel, by decide +kernel⟩, List.mem_of_getElem? (i := 1371) (by decide +kernel), List.mem_of_getElem? (i := 1686) (by decide +kernel), List.mem_of_getElem? (i := 1687) (by decide +kernel)⟩
theorem lw_p42 : lw_okq (⟨"JoinedTreesModel", "owns", "(II)Z"⟩, 77) := ⟨⟨by decide +kernel, by decide +kernel⟩, List.mem_of_getElem? (i := 1371) (by decide +kernel), List.mem_of_getElem? (i := 1690) (by decide +kernel), List.mem_of_getElem? (i := 1691) (by decide +kernel)⟩
theorem lw_p43 : lw_okq (⟨"JoinedTreesModel", "follows", "(IZ)V"⟩, 77) := ⟨⟨by decide +kernel, by decide +kernel⟩, List.mem_of_getElem? (i := 1371) (by decide +kernel), List.mem_of_getElem? (i := 1695) (by decide +kernel), List.mem_of_getElem? (i := 1696) (by decide +kernel)⟩
theorem lw_p44 : lw_okq (⟨"JoinedTreesModel", "keep", "([BII)I"⟩, 77) := ⟨⟨by decide +kernel, by decide +kernel⟩, List.mem_of_getElem? (i := 1371) (by decide +kernel), List.mem_of_getElem? (i := 1699) (by decide +kernel), List.mem_of_getElem? (i := 1700) (by decide +kernel)⟩
theorem lw_p45 : lw_okq (⟨"JoinedTreesModel", "value", "(II[BII)V"⟩, 77) := ⟨⟨by decide +kernel, by decide +kernel⟩, List.mem_of_getElem? (i := 1371) (by decide +kernel), List.mem_of_getElem? (i := 1703) (by decide +kernel), List.mem_of_getElem? (i := 1704) (by decide +kernel)⟩
theorem lw_p46 : lw_okq (⟨"JoinedTreesModel", "at", "(III)I"⟩, 77) := ⟨⟨by decide +kernel, by decide +kernel⟩, List.mem_of_getElem? (i := 1371) (by decide +kernel), List.mem_of_getElem? (i := 1711) (by decide +kernel), List.mem_of_getElem? (i := 1712) (by decide +kernel)⟩
theorem lw_p47 : lw_okq (⟨"JoinedTreesModel", "list", "(II)V"⟩, 77) := ⟨⟨by decide +kernel, by decide +kernel⟩, List.mem_of_getElem? (i := 1371) (by decide +kernel), List.mem_of_getElem? (i := 1715) (by decide +kernel), List.mem_of_getElem? (i := 1716) (by decide +kernel)⟩
def lw_privs_3 : List (MethodName × Nat) := [(⟨"JoinedTreesModel", "maker", "(II)I"⟩, 77), (⟨"JoinedTreesModel", "in", "(II)Z"⟩, 77), (⟨"JoinedTreesModel", "full", "(II)Z"⟩, 77), (⟨"JoinedTreesModel", "setKey", "(II[BIIIJ[BII)I"⟩, 77), (⟨"JoinedTreesModel", "keyCandidates", "(II[BII)V"⟩, 77), (⟨"JoinedTreesModel", "hide", "(I)V"⟩, 77), (⟨"JoinedTreesModel", "visible", "(II)Z"⟩, 77), (⟨"JoinedTreesModel", "sameKey", "(I[BII)Z"⟩, 77), (⟨"JoinedTreesModel", "make", "(IIIJ)I"⟩, 77), (⟨"JoinedTreesModel", "greatest", "(I)I"⟩, 77), (⟨"JoinedTreesModel", "owns", "(II)Z"⟩, 77), (⟨"JoinedTreesModel", "follows", "(IZ)V"⟩, 77), (⟨"JoinedTreesModel", "keep", "([BII)I"⟩, 77), (⟨"JoinedTreesModel", "value", "(II[BII)V"⟩, 77), (⟨"JoinedTreesModel", "at", "(III)I"⟩, 77), (⟨"JoinedTreesModel", "list", "(II)V"⟩, 77)]
theorem lw_r3 : ∀ q ∈ lw_privs_3, lw_okq q := List.forall_mem_cons.mpr ⟨lw_p32, List.forall_mem_cons.mpr ⟨lw_p33, List.forall_mem_cons.mpr ⟨lw_p34, List.forall_mem_cons.mpr ⟨lw_p35, List.forall_mem_cons.mpr ⟨lw_p36, List.forall_mem_cons.mpr ⟨lw_p37, List.forall_mem_cons.mpr ⟨lw_p38, List.forall_mem_cons.mpr ⟨lw_p39, List.forall_mem_cons.mpr ⟨lw_p40, List.forall_mem_cons.mpr ⟨lw_p41, List.forall_mem_cons.mpr ⟨lw_p42, List.forall_mem_cons.mpr ⟨lw_p43, List.forall_mem_cons.mpr ⟨lw_p44, List.forall_mem_cons.mpr ⟨lw_p45, List.forall_mem_cons.mpr ⟨lw_p46, List.forall_mem_cons.mpr ⟨lw_p47, fun _ h => absurd h List.not_mem_nil⟩⟩⟩⟩⟩⟩⟩⟩⟩⟩⟩⟩⟩⟩⟩⟩
theorem lw_p48 : lw_okq (⟨"JoinedTreesModel", "mark", "(II)V"⟩, 77) := ⟨⟨by decide +kernel, by decide +kernel⟩, List.mem_of_getElem? (i := 1371) (by decide +kernel), List.mem_of_getElem? (i := 1719) (by decide +kernel), List.mem_of_getElem? (i := 1720) (by decide +kernel)⟩
theorem lw_p49 : lw_okq (⟨"JoinedTreesModel", "elementCandidates", "(III)V"⟩, 77) := ⟨⟨by decide +kernel, by decide +kernel⟩, List.mem_of_getElem? (i := 1371) (by decide +kernel), List.mem_of_getElem? (i := 1723) (by decide +kernel), List.mem_of_getElem? (i := 1724) (by decide +kernel)⟩
theorem lw_p50 : lw_okq (⟨"JoinedTreesModel", "indices", "(II)I"⟩, 77) := ⟨⟨by decide +kernel, by decide +kernel⟩, List.mem_of_getElem? (i := 1371) (by decide +kernel), List.mem_of_getElem? (i := 1731) (by decide +kernel), List.mem_of_getElem? (i := 1732) (by decide +kernel)⟩
theorem lw_p51 : lw_okq (⟨"JoinedTreesModel", "insertBehind", "(IIIIJ[BII)I"⟩, 77) := ⟨⟨by decide +kernel, by decide +kernel⟩, List.mem_of_getElem? (i := 1371) (by decide +kernel), List.mem_of_getElem? (i := 1735) (by decide +kernel), List.mem_of_getElem? (i := 1736) (by decide +kernel)⟩
theorem lw_p52 : lw_okq (⟨"JoinedTreesModel", "act", "(IIIIJ)I"⟩, 77) := ⟨⟨by decide +kernel, by decide +kernel⟩, List.mem_of_getElem? (i := 1371) (by decide +kernel), List.mem_of_getElem? (i := 1747) (by decide +kernel), List.mem_of_getElem? (i := 1748) (by decide +kernel)⟩
theorem lw_p53 : lw_okq (⟨"JoinedTreesModel", "point", "(IIIII)I"⟩, 77) := ⟨⟨by decide +kernel, by decide +kernel⟩, List.mem_of_getElem? (i := 1371) (by decide +kernel), List.mem_of_getElem? (i := 1751) (by decide +kernel), List.mem_of_getElem? (i := 1752) (by decide +kernel)⟩
theorem lw_p54 : lw_okq (⟨"JoinedTreesModel", "json", "()Z"⟩, 77) := ⟨⟨by decide +kernel, by decide +kernel⟩, List.mem_of_getElem? (i := 1371) (by decide +kernel), List.mem_of_getElem? (i := 1763) (by decide +kernel), List.mem_of_getElem? (i := 1764) (by decide +kernel)⟩
theorem lw_p55 : lw_okq (⟨"JoinedTreesModel", "one", "(II)V"⟩, 77) := ⟨⟨by decide +kernel, by decide +kernel⟩, List.mem_of_getElem? (i := 1371) (by decide +kernel), List.mem_of_getElem? (i := 1767) (by decide +kernel), List.mem_of_getElem? (i := 1768) (by decide +kernel)⟩
theorem lw_p56 : lw_okq (⟨"JoinedTreesModel", "skip", "()V"⟩, 77) := ⟨⟨by decide +kernel, by decide +kernel⟩, List.mem_of_getElem? (i := 1371) (by decide +kernel), List.mem_of_getElem? (i := 1771) (by decide +kernel), List.mem_of_getElem? (i := 1772) (by decide +kernel)⟩
theorem lw_p57 : lw_okq (⟨"JoinedTreesModel", "sign", "()I"⟩, 77) := ⟨⟨by decide +kernel, by decide +kernel⟩, List.mem_of_getElem? (i := 1371) (by decide +kernel), List.mem_of_getElem? (i := 1775) (by decide +kernel), List.mem_of_getElem? (i := 1776) (by decide +kernel)⟩
theorem lw_p58 : lw_okq (⟨"JoinedTreesModel", "word", "(Ljava/lang/String;)V"⟩, 77) := ⟨⟨by decide +kernel, by decide +kernel⟩, List.mem_of_getElem? (i := 1371) (by decide +kernel), List.mem_of_getElem? (i := 1782) (by decide +kernel), List.mem_of_getElem? (i := 1783) (by decide +kernel)⟩
theorem lw_p59 : lw_okq (⟨"JoinedTreesModel", "string", "(I)I"⟩, 77) := ⟨⟨by decide +kernel, by decide +kernel⟩, List.mem_of_getElem? (i := 1371) (by decide +kernel), List.mem_of_getElem? (i := 1788) (by decide +kernel), List.mem_of_getElem? (i := 1789) (by decide +kernel)⟩
theorem lw_p60 : lw_okq (⟨"JoinedTreesModel", "digits", "(I)V"⟩, 77) := ⟨⟨by decide +kernel, by decide +kernel⟩, List.mem_of_getElem? (i := 1371) (by decide +kernel), List.mem_of_getElem? (i := 1795) (by decide +kernel), List.mem_of_getElem? (i := 1796) (by decide +kernel)⟩
theorem lw_p61 : lw_okq (⟨"JoinedTreesModel", "member", "()V"⟩, 77) := ⟨⟨by decide +kernel, by decide +kernel⟩, List.mem_of_getElem? (i := 1371) (by decide +kernel), List.mem_of_getElem? (i := 1801) (by decide +kernel), List.mem_of_getElem? (i := 1802) (by decide +kernel)⟩
theorem lw_p62 : lw_okq (⟨"JoinedTreesModel", "keyThere", "(III)Z"⟩, 77) := ⟨⟨by decide +kernel, by decide +kernel⟩, List.mem_of_getElem? (i := 1371) (by decide +kernel), List.mem_of_getElem? (i := 1805) (by decide +kernel), List.mem_of_getElem? (i := 1806) (by decide +kernel)⟩
theorem lw_p63 : lw_okq (⟨"JoinedTreesModel", "open", "(I)I"⟩, 77) := ⟨⟨by decide +kernel, by decide +kernel⟩, List.mem_of_getElem? (i := 1371) (by decide +kernel), List.mem_of_getElem? (i := 1813) (by decide +kernel), List.mem_of_getElem? (i := 1814) (by decide +kernel)⟩
def lw_privs_4 : List (MethodName × Nat) := [(⟨"JoinedTreesModel", "mark", "(II)V"⟩, 77), (⟨"JoinedTreesModel", "elementCandidates", "(III)V"⟩, 77), (⟨"JoinedTreesModel", "indices", "(II)I"⟩, 77), (⟨"JoinedTreesModel", "insertBehind", "(IIIIJ[BII)I"⟩, 77), (⟨"JoinedTreesModel", "act", "(IIIIJ)I"⟩, 77), (⟨"JoinedTreesModel", "point", "(IIIII)I"⟩, 77), (⟨"JoinedTreesModel", "json", "()Z"⟩, 77), (⟨"JoinedTreesModel", "one", "(II)V"⟩, 77), (⟨"JoinedTreesModel", "skip", "()V"⟩, 77), (⟨"JoinedTreesModel", "sign", "()I"⟩, 77), (⟨"JoinedTreesModel", "word", "(Ljava/lang/String;)V"⟩, 77), (⟨"JoinedTreesModel", "string", "(I)I"⟩, 77), (⟨"JoinedTreesModel", "digits", "(I)V"⟩, 77), (⟨"JoinedTreesModel", "member", "()V"⟩, 77), (⟨"JoinedTreesModel", "keyThere", "(III)Z"⟩, 77), (⟨"JoinedTreesModel", "open", "(I)I"⟩, 77)]
theorem lw_r4 : ∀ q ∈ lw_privs_4, lw_okq q := List.forall_mem_cons.mpr ⟨lw_p48, List.forall_mem_cons.mpr ⟨lw_p49, List.forall_mem_cons.mpr ⟨lw_p50, List.forall_mem_cons.mpr ⟨lw_p51, List.forall_mem_cons.mpr ⟨lw_p52, List.forall_mem_cons.mpr ⟨lw_p53, List.forall_mem_cons.mpr ⟨lw_p54, List.forall_mem_cons.mpr ⟨lw_p55, List.forall_mem_cons.mpr ⟨lw_p56, List.forall_mem_cons.mpr ⟨lw_p57, List.forall_mem_cons.mpr ⟨lw_p58, List.forall_mem_cons.mpr ⟨lw_p59, List.forall_mem_cons.mpr ⟨lw_p60, List.forall_mem_cons.mpr ⟨lw_p61, List.forall_mem_cons.mpr ⟨lw_p62, List.forall_mem_cons.mpr ⟨lw_p63, fun _ h => absurd h List.not_mem_nil⟩⟩⟩⟩⟩⟩⟩⟩⟩⟩⟩⟩⟩⟩⟩⟩
theorem lw_p64 : lw_okq (⟨"JoinedTreesModel", "numberOf", "(II)I"⟩, 77) := ⟨⟨by decide +kernel, by decide +kernel⟩, List.mem_of_getElem? (i := 1371) (by decide +kernel), List.mem_of_getElem? (i := 1817) (by decide +kernel), List.mem_of_getElem? (i := 1818) (by decide +kernel)⟩
theorem lw_p65 : lw_okq (⟨"JoinedTreesModel", "isHead", "(II)Z"⟩, 77) := ⟨⟨by decide +kernel, by decide +kernel⟩, List.mem_of_getElem? (i := 1371) (by decide +kernel), List.mem_of_getElem? (i := 1821) (by decide +kernel), List.mem_of_getElem? (i := 1822) (by decide +kernel)⟩
theorem lw_p66 : lw_okq (⟨"JoinedTreesModel", "find", "(II)I"⟩, 77) := ⟨⟨by decide +kernel, by decide +kernel⟩, List.mem_of_getElem? (i := 1371) (by decide +kernel), List.mem_of_getElem? (i := 1833) (by decide +kernel), List.mem_of_getElem? (i := 1834) (by decide +kernel)⟩
theorem lw_p67 : lw_okq (⟨"JoinedTreesModel", "settle", "(I)I"⟩, 77) := ⟨⟨by decide +kernel, by decide +kernel⟩, List.mem_of_getElem? (i := 1371) (by decide +kernel), List.mem_of_getElem? (i := 1837) (by decide +kernel), List.mem_of_getElem? (i := 1838) (by decide +kernel)⟩
theorem lw_p68 : lw_okq (⟨"JoinedTreesModel", "ready", "(II)Z"⟩, 77) := ⟨⟨by decide +kernel, by decide +kernel⟩, List.mem_of_getElem? (i := 1371) (by decide +kernel), List.mem_of_getElem? (i := 1841) (by decide +kernel), List.mem_of_getElem? (i := 1842) (by decide +kernel)⟩
theorem lw_p69 : lw_okq (⟨"JoinedTreesModel", "view", "(I)I"⟩, 77) := ⟨⟨by decide +kernel, by decide +kernel⟩, List.mem_of_getElem? (i := 1371) (by decide +kernel), List.mem_of_getElem? (i := 1853) (by decide +kernel), List.mem_of_getElem? (i := 1854) (by decide +kernel)⟩
theorem lw_p70 : lw_okq (⟨"JoinedTreesModel", "keysOf", "(II)V"⟩, 77) := ⟨⟨by decide +kernel, by decide +kernel⟩, List.mem_of_getElem? (i := 1371) (by decide +kernel), List.mem_of_getElem? (i := 1861) (by decide +kernel), List.mem_of_getElem? (i := 1862) (by decide +kernel)⟩
theorem lw_p71 : lw_okq (⟨"JoinedTreesModel", "compareKeys", "(II)I"⟩, 77) := ⟨⟨by decide +kernel, by decide +kernel⟩, List.mem_of_getElem? (i := 1371) (by decide +kernel), List.mem_of_getElem? (i := 1865) (by decide +kernel), List.mem_of_getElem? (i := 1866) (by decide +kernel)⟩
theorem lw_p72 : lw_okq (⟨"JoinedTreesModel", "counter", "(II)J"⟩, 77) := ⟨⟨by decide +kernel, by decide +kernel⟩, List.mem_of_getElem? (i := 1371) (by decide +kernel), List.mem_of_getElem? (i := 1877) (by decide +kernel), List.mem_of_getElem? (i := 1878) (by decide +kernel)⟩
theorem lw_p73 : lw_okq (⟨"JoinedTreesModel", "listKind", "(II)I"⟩, 77) := ⟨⟨by decide +kernel, by decide +kernel⟩, List.mem_of_getElem? (i := 1371) (by decide +kernel), List.mem_of_getElem? (i := 1889) (by decide +kernel), List.mem_of_getElem? (i := 1890) (by decide +kernel)⟩
theorem lw_p74 : lw_okq (⟨"JoinedTreesModel", "isPath", "()Z"⟩, 77) := ⟨⟨by decide +kernel, by decide +kernel⟩, List.mem_of_getElem? (i := 1371) (by decide +kernel), List.mem_of_getElem? (i := 1901) (by decide +kernel), List.mem_of_getElem? (i := 1902) (by decide +kernel)⟩
theorem lw_p75 : lw_okq (⟨"JoinedTreesModel", "begin", "(III)V"⟩, 77) := ⟨⟨by decide +kernel, by decide +kernel⟩, List.mem_of_getElem? (i := 1371) (by decide +kernel), List.mem_of_getElem? (i := 1912) (by decide +kernel), List.mem_of_getElem? (i := 1913) (by decide +kernel)⟩
theorem lw_p76 : lw_okq (⟨"JoinedTreesModel", "write", "(I)V"⟩, 77) := ⟨⟨by decide +kernel, by decide +kernel⟩, List.mem_of_getElem? (i := 1371) (by decide +kernel), List.mem_of_getElem? (i := 1916) (by decide +kernel), List.mem_of_getElem? (i := 1917) (by decide +kernel)⟩
theorem lw_p77 : lw_okq (⟨"JoinedTreesModel", "push", "(I)V"⟩, 77) := ⟨⟨by decide +kernel, by decide +kernel⟩, List.mem_of_getElem? (i := 1371) (by decide +kernel), List.mem_of_getElem? (i := 1920) (by decide +kernel), List.mem_of_getElem? (i := 1921) (by decide +kernel)⟩
theorem lw_p78 : lw_okq (⟨"JoinedTreesModel", "escaped", "(I)V"⟩, 77) := ⟨⟨by decide +kernel, by decide +kernel⟩, List.mem_of_getElem? (i := 1371) (by decide +kernel), List.mem_of_getElem? (i := 1924) (by decide +kernel), List.mem_of_getElem? (i := 1925) (by decide +kernel)⟩
theorem lw_p79 : lw_okq (⟨"JoinedTreesModel", "name", "(I)V"⟩, 77) := ⟨⟨by decide +kernel, by decide +kernel⟩, List.mem_of_getElem? (i := 1371) (by decide +kernel), List.mem_of_getElem? (i := 1931) (by decide +kernel), List.mem_of_getElem? (i := 1932) (by decide +kernel)⟩
def lw_privs_5 : List (MethodName × Nat) := [(⟨"JoinedTreesModel", "numberOf", "(II)I"⟩, 77), (⟨"JoinedTreesModel", "isHead", "(II)Z"⟩, 77), (⟨"JoinedTreesModel", "find", "(II)I"⟩, 77), (⟨"JoinedTreesModel", "settle", "(I)I"⟩, 77), (⟨"JoinedTreesModel", "ready", "(II)Z"⟩, 77), (⟨"JoinedTreesModel", "view", "(I)I"⟩, 77), (⟨"JoinedTreesModel", "keysOf", "(II)V"⟩, 77), (⟨"JoinedTreesModel", "compareKeys", "(II)I"⟩, 77), (⟨"JoinedTreesModel", "counter", "(II)J"⟩, 77), (⟨"JoinedTreesModel", "listKind", "(II)I"⟩, 77), (⟨"JoinedTreesModel", "isPath", "()Z"⟩, 77), (⟨"JoinedTreesModel", "begin", "(III)V"⟩, 77), (⟨"JoinedTreesModel", "write", "(I)V"⟩, 77), (⟨"JoinedTreesModel", "push", "(I)V"⟩, 77), (⟨"JoinedTreesModel", "escaped", "(I)V"⟩, 77), (⟨"JoinedTreesModel", "name", "(I)V"⟩, 77)]
theorem lw_r5 : ∀ q ∈ lw_privs_5, lw_okq q := List.forall_mem_cons.mpr ⟨lw_p64, List.forall_mem_cons.mpr ⟨lw_p65, List.forall_mem_cons.mpr ⟨lw_p66, List.forall_mem_cons.mpr ⟨lw_p67, List.forall_mem_cons.mpr ⟨lw_p68, List.forall_mem_cons.mpr ⟨lw_p69, List.forall_mem_cons.mpr ⟨lw_p70, List.forall_mem_cons.mpr ⟨lw_p71, List.forall_mem_cons.mpr ⟨lw_p72, List.forall_mem_cons.mpr ⟨lw_p73, List.forall_mem_cons.mpr ⟨lw_p74, List.forall_mem_cons.mpr ⟨lw_p75, List.forall_mem_cons.mpr ⟨lw_p76, List.forall_mem_cons.mpr ⟨lw_p77, List.forall_mem_cons.mpr ⟨lw_p78, List.forall_mem_cons.mpr ⟨lw_p79, fun _ h => absurd h List.not_mem_nil⟩⟩⟩⟩⟩⟩⟩⟩⟩⟩⟩⟩⟩⟩⟩⟩
theorem lw_p80 : lw_okq (⟨"JoinedTreesModel", "plain", "(II)V"⟩, 77) := ⟨⟨by decide +kernel, by decide +kernel⟩, List.mem_of_getElem? (i := 1371) (by decide +kernel), List.mem_of_getElem? (i := 1935) (by decide +kernel), List.mem_of_getElem? (i := 1936) (by decide +kernel)⟩
theorem lw_p81 : lw_okq (⟨"JoinedTreesModel", "digits", "(J)V"⟩, 77) := ⟨⟨by decide +kernel, by decide +kernel⟩, List.mem_of_getElem? (i := 1371) (by decide +kernel), List.mem_of_getElem? (i := 1939) (by decide +kernel), List.mem_of_getElem? (i := 1940) (by decide +kernel)⟩
theorem lw_p82 : lw_okq (⟨"JoinedTreesModel", "group", "(J)V"⟩, 77) := ⟨⟨by decide +kernel, by decide +kernel⟩, List.mem_of_getElem? (i := 1371) (by decide +kernel), List.mem_of_getElem? (i := 1948) (by decide +kernel), List.mem_of_getElem? (i := 1949) (by decide +kernel)⟩
theorem lw_p83 : lw_okq (⟨"JoinedTreesModel", "saveChange", "(I)V"⟩, 77) := ⟨⟨by decide +kernel, by decide +kernel⟩, List.mem_of_getElem? (i := 1371) (by decide +kernel), List.mem_of_getElem? (i := 1953) (by decide +kernel), List.mem_of_getElem? (i := 1954) (by decide +kernel)⟩
theorem lw_p84 : lw_okq (⟨"JoinedTreesModel", "saveOp", "(I)V"⟩, 77) := ⟨⟨by decide +kernel, by decide +kernel⟩, List.mem_of_getElem? (i := 1371) (by decide +kernel), List.mem_of_getElem? (i := 1961) (by decide +kernel), List.mem_of_getElem? (i := 1962) (by decide +kernel)⟩
theorem lw_p85 : lw_okq (⟨"JoinedTreesModel", "long2", "(J)V"⟩, 77) := ⟨⟨by decide +kernel, by decide +kernel⟩, List.mem_of_getElem? (i := 1371) (by decide +kernel), List.mem_of_getElem? (i := 1965) (by decide +kernel), List.mem_of_getElem? (i := 1966) (by decide +kernel)⟩
theorem lw_p86 : lw_okq (⟨"JoinedTreesModel", "crc", "(I)I"⟩, 77) := ⟨⟨by decide +kernel, by decide +kernel⟩, List.mem_of_getElem? (i := 1371) (by decide +kernel), List.mem_of_getElem? (i := 1971) (by decide +kernel), List.mem_of_getElem? (i := 1972) (by decide +kernel)⟩
theorem lw_p87 : lw_okq (⟨"JoinedTreesModel", "isSaved", "()Z"⟩, 77) := ⟨⟨by decide +kernel, by decide +kernel⟩, List.mem_of_getElem? (i := 1371) (by decide +kernel), List.mem_of_getElem? (i := 1980) (by decide +kernel), List.mem_of_getElem? (i := 1981) (by decide +kernel)⟩
theorem lw_p88 : lw_okq (⟨"JoinedTreesModel", "grouped", "()I"⟩, 77) := ⟨⟨by decide +kernel, by decide +kernel⟩, List.mem_of_getElem? (i := 1371) (by decide +kernel), List.mem_of_getElem? (i := 1984) (by decide +kernel), List.mem_of_getElem? (i := 1985) (by decide +kernel)⟩
theorem lw_p89 : lw_okq (⟨"JoinedTreesModel", "stands", "(II)Z"⟩, 77) := ⟨⟨by decide +kernel, by decide +kernel⟩, List.mem_of_getElem? (i := 1371) (by decide +kernel), List.mem_of_getElem? (i := 1988) (by decide +kernel), List.mem_of_getElem? (i := 1989) (by decide +kernel)⟩
def lw_privs_6 : List (MethodName × Nat) := [(⟨"JoinedTreesModel", "plain", "(II)V"⟩, 77), (⟨"JoinedTreesModel", "digits", "(J)V"⟩, 77), (⟨"JoinedTreesModel", "group", "(J)V"⟩, 77), (⟨"JoinedTreesModel", "saveChange", "(I)V"⟩, 77), (⟨"JoinedTreesModel", "saveOp", "(I)V"⟩, 77), (⟨"JoinedTreesModel", "long2", "(J)V"⟩, 77), (⟨"JoinedTreesModel", "crc", "(I)I"⟩, 77), (⟨"JoinedTreesModel", "isSaved", "()Z"⟩, 77), (⟨"JoinedTreesModel", "grouped", "()I"⟩, 77), (⟨"JoinedTreesModel", "stands", "(II)Z"⟩, 77)]
theorem lw_r6 : ∀ q ∈ lw_privs_6, lw_okq q := List.forall_mem_cons.mpr ⟨lw_p80, List.forall_mem_cons.mpr ⟨lw_p81, List.forall_mem_cons.mpr ⟨lw_p82, List.forall_mem_cons.mpr ⟨lw_p83, List.forall_mem_cons.mpr ⟨lw_p84, List.forall_mem_cons.mpr ⟨lw_p85, List.forall_mem_cons.mpr ⟨lw_p86, List.forall_mem_cons.mpr ⟨lw_p87, List.forall_mem_cons.mpr ⟨lw_p88, List.forall_mem_cons.mpr ⟨lw_p89, fun _ h => absurd h List.not_mem_nil⟩⟩⟩⟩⟩⟩⟩⟩⟩⟩
def lw_privs : List (MethodName × Nat) := lw_privs_1 ++ (lw_privs_2 ++ (lw_privs_3 ++ (lw_privs_4 ++ (lw_privs_5 ++ (lw_privs_6)))))
def lw_tbl : List Cond := k2_sels lw_privs ++ tables_1
theorem lw_privs_ok : ∀ q ∈ lw_privs, lw_okq q := by
  show ∀ q ∈ lw_privs_1 ++ (lw_privs_2 ++ (lw_privs_3 ++ (lw_privs_4 ++ (lw_privs_5 ++ (lw_privs_6))))), lw_okq q
  exact List.forall_mem_append.mpr ⟨lw_r1, List.forall_mem_append.mpr ⟨lw_r2, List.forall_mem_append.mpr ⟨lw_r3, List.forall_mem_append.mpr ⟨lw_r4, List.forall_mem_append.mpr ⟨lw_r5, lw_r6⟩⟩⟩⟩⟩
-- ===== end of PART A; then your names; then what follows =====
end
section
/-! THROWS: contracts of methods that end by a throw, the row that throws a new exception, calls that throw on, calls whose throw is caught. -/
/-- no stack traces in this launch -/
theorem tx_off {l : Launch} {e : Env} (hl : l.flags = flags0) (ha : l.admits e) : e.platform.stackTraces = false := by
  have h : e.platform.stackTraces = l.stackTraces := by rw [ha.platform]
  rw [h]
  unfold Launch.stackTraces
  rw [hl]
  decide +kernel
/-- what an invocation leaves, returned or thrown -/
def tx_FE (first t : State) (L : List Loc) (k n : Nat) : Prop := first.WarmedH t.vm ∧ first.sameButNew ({ t with vm := first.vm } : State) L k n
/-- it threw a new object of the class E; nothing outside A changed -/
def tx_Q (E : String) (A : Nat → Prop) (st : State) (o : Outcome) (t : State) : Prop :=
  (∃ (y : Addr) (ce : Cell), o = .threw y ∧ st.heap.size ≤ y ∧ t.heap[y]? = some ce ∧ ce.vm.isStatics = false ∧ st.vm.findClass E = some ce.cls) ∧ va_F A st t
def MeT (l : Launch) (y : MethodName) (ws : List Cond) (rm : Room) (Pc : Array Value → State → Prop) (E : String) (A : Nat → Prop) (mc ms : Nat) : Prop :=
  MetFree l y (headSpec ws rm) Pc (fun _ _ _ _ _ => True) (fun _ st o t => tx_Q E A st o t ∧ ∃ L, tx_FE st t L mc ms ∧ ∀ q ∈ L, A q.base)
def tx_MQ (below : List Frame) (E : String) (A : Nat → Prop) (s : State) (mc ms : Nat) : State → Prop := fun t =>
  ∃ o, t.status = .running ∧ Ended t below o ∧ tx_Q E A s o t ∧ ∃ L, tx_FE s t L mc ms ∧ ∀ q ∈ L, A q.base
theorem MeT.ofW {l : Launch} {y : MethodName} {ws ws' : List Cond} {rm : Room} {Pc : Array Value → State → Prop} {E : String} {A : Nat → Prop} {mc ms : Nat} {cc : ByteArray} {maxL : Nat} {ret : Option FieldType}
    (hy : plainName y.cls = true) (hw : ws = Cond.code y cc maxL ret :: ws')
    (body : ∀ p e s m args below meth c s₁, BodyLoose p l y (headSpec ws rm) cc maxL ret e s m args below meth c s₁ → c.maxLocals = maxL → c.exceptionTable.isEmpty = true → Pc args s →
      W p l e (headSpec ws rm).room s m args below meth c s.heap [] 0 0 (tx_MQ below E A s mc ms) (entryFrame m args maxL)) : MeT l y ws rm Pc E A mc ms := by
  refine MetFree.of_bodyS (code := cc) (maxLocals := maxL) (ret := ret) hy ?_ ?_
  · intro args s m h hn
    obtain ⟨meth, c, h1, h2, h3, h4, h5, h6, -, -⟩ := Cond.code_spec hn (atoms_spec (ws := ws) h _ (by rw [hw]; exact List.mem_cons_self))
    exact ⟨meth, c, h1, h2, h3, h4, h5, h6⟩
  · intro p e s m args below meth c s₁ B hml hP _
    have hh0 : s₁.heap = s.heap := by rw [B.state]; rfl
    have hno := B.noHandlers (atoms_spec (ws := ws) B.pre _ (by rw [hw]; exact List.mem_cons_self))
    obtain ⟨t, a1, o, b1, b2, b3⟩ := body p e s m args below meth c s₁ B hml hno hP s₁ hh0 (Stand.of_body B)
    exact ⟨t, o, a1, b1, b2, b3⟩
theorem tx_keep {s U : State} {locs : List Loc} {cells slots : Nat} {A : Nat → Prop} (h : s.sameButNew U locs cells slots) (hL : ∀ q ∈ locs, A q.base) : s.heap.size ≤ U.heap.size ∧ ∀ q : Nat, q < s.heap.size → ¬ A q → U.heap[q]? = s.heap[q]? := by
  obtain ⟨-, h1, -, -, -, h2⟩ := h
  refine ⟨h1, fun q hq hn => ?_⟩
  obtain ⟨c', e1, e2, e3, e4⟩ := h2 q _ (Array.getElem?_eq_getElem hq)
  rw [e1, Array.getElem?_eq_getElem hq, e2]
  congr 1
  have hs : c'.slots = s.heap[q].slots := by
    apply Array.ext_getElem?
    intro i
    exact e4 i (fun hm => hn (hL _ hm))
  rw [hs]
section TXT
variable {p : Program} {l : Launch} {e : Env} {R : Room} {s : State} {m : MethodId} {args : Array Value} {below : List Frame} {meth : Method} {c : Code} {H : Heap} {locs : List Loc} {cells slots : Nat} {Q : State → Prop}
variable {pc : Nat} {ls : Array Slot} {rest : List Value} {A : Nat → Prop}
theorem tx_noH (hx : c.exceptionTable.isEmpty = true) (k : Nat) : ∀ y ∈ c.exceptionTable.toList, covers y k = false := by
  have h0 : c.exceptionTable.size = 0 := by simpa [Array.isEmpty] using hx
  have h1 : c.exceptionTable.toList = [] := List.eq_nil_of_length_eq_zero (by simpa using h0)
  intro y hy
  rw [h1] at hy
  cases hy
/-- no cell that A names is a class's statics -/
def tx_NS (A : Nat → Prop) (s : State) : Prop := ∀ (q : Nat) (cell : Cell), A q → s.heap[q]? = some cell → cell.vm.isStatics = false
/-- new E(); throw it: the end of a method without handlers -/
theorem tx_throw {cc : ByteArray} (hl : l.flags = flags0) (hexec : p.tables.exec = Jvm.exec) (hb : c.code = cc) (hx : c.exceptionTable.isEmpty = true) (hlocks : meth.locks = false) {own E : String} {ia ic : Nat} {names : List String}
    (hown : s.vm.findClass own = some m.cls) (hE : Bundle.fit E = true) (hn : ∀ n ∈ names, Bundle.fit n = true) (hat : ∀ a ∈ Bundle.ownAtoms0 own ic E names, a.before args s = true)
    (hcl : (Cond.classLink own ia E).before args s = true) (hini : (Cond.initialized E).before args s = true)
    (hd0 : decode cc pc = .ok (.new ia, 3)) (hd3 : decode cc (pc + 3) = .ok (.dup, 1)) (hd4 : decode cc (pc + 4) = .ok (.invokespecial ic, 3)) (hd7 : decode cc (pc + 7) = .ok (.athrow, 1))
    (hsz : ls.size = c.maxLocals) (hS : va_S A s.heap H locs) (hA : ∀ q, s.heap.size ≤ q → A q) (hNS : tx_NS A s)
    (hc : cells + 1 ≤ R.cells) (hs6 : slots + 6 ≤ R.slots) (hRf : names.length + 3 < R.frames) (hRl : (rest.map fun v => v.category).sum + (13 * (names.length + 1) + 42) ≤ R.locals) :
    W p l e R s m args below meth c H locs cells slots (tx_MQ below E A s (cells + 1) (slots + 6)) (F0 m pc ls rest) := by
  have hins : (Cond.instantiable E 6).before args s = true := hat _ (by simp [Bundle.ownAtoms0])
  obtain ⟨cX, kX0, hfX, hk0, -⟩ := Cond.instantiable_spec (show (Cond.instantiable E 6).holds args s none s [] = true from hins)
  refine W.newcK (n := 6) hexec hb hown hcl hins hini (g := F0 m pc ls rest) rfl hd0 hc hs6 (cC := cX) hfX (h := H.size) rfl fun H' kC hkC e1 e2 e3 => ?_
  refine lv_dup hexec hb hd3 rfl ?_
  intro T hT X
  have hlocs : ∀ y ∈ locs, ∀ cell, s.heap[y.base]? = some cell → cell.vm.isStatics = false := fun y hy cell h => hNS y.base cell (hS.2.2 y hy) h
  obtain ⟨U, st, hrun, hend, hW, hsame, ce, hce, hO⟩ := X.ctorThrow0 hexec (tx_off hl X.admits) hown hE hn hat hlocs (a := H.size) hfX hkC (by rw [hT]; exact e1) hS.1
    (g := F0 m (pc + 3 + 1) ls (.ref H.size :: .ref H.size :: rest)) rfl (by exact hsz) rfl rfl rfl (by rw [hb]; exact hd4) (by rw [hb]; exact hd7) (tx_noH hx _) hRf
    (by
      show 2 * (F0 m (pc + 3 + 1) ls (.ref H.size :: .ref H.size :: rest)).monitorRoom + ((Value.ref H.size :: rest).map fun v => v.category).sum + (13 * (names.length + 1) + 41) ≤ R.locals
      have h1 : (F0 m (pc + 3 + 1) ls (.ref H.size :: .ref H.size :: rest)).monitorRoom = 0 := rfl
      have h2 : (Value.ref H.size).category = 1 := rfl
      rw [h1, List.map_cons, List.sum_cons, h2]
      omega) hlocks
  have hk := tx_keep hsame hS.2.2
  exact ⟨U, st, .threw H.size, hrun, hend, ⟨⟨H.size, ce, rfl, hS.1, hce, by rw [hO.vm]; rfl, hO.cls⟩, hk.1, hk.2⟩, locs, ⟨hW, hsame⟩, fun q hq => hS.2.2 q hq⟩
end TXT
end
section
/-! CALLS THAT THROW: out of a contract MeT: what comes behind the callee's throw, in the caller. -/
section TXB
variable {p : Program} {l : Launch} {e : Env} {R : Room} {s : State} {m : MethodId} {args : Array Value} {below : List Frame} {meth : Method} {c : Code} {H : Heap} {locs : List Loc} {cells slots : Nat} {Q : State → Prop}
/-- behind the callee's throw: the caller stands again, the note lies over its frame -/
def tx_Thr (p : Program) (l : Launch) (e : Env) (R : Room) (s : State) (m : MethodId) (args : Array Value) (below : List Frame) (meth : Method) (c : Code) (H : Heap) (locs : List Loc) (cells slots mc ms : Nat) (g : JFrame) (rest : List Value) (E : String) (A : Nat → Prop) : Prop :=
  ∀ T : State, T.heap = H → Stand p l e R s m args below meth c T locs cells slots → ∃ (y : Addr) (ce : Cell) (T' : State) (L : List Loc), Stand p l e R s m args below meth c T' (locs ++ L) (cells + mc) (slots + ms) ∧ (∀ q ∈ L, A q.base) ∧ H.size ≤ y ∧ T'.heap[y]? = some ce ∧ ce.vm.isStatics = false ∧ s.vm.findClass E = some ce.cls ∧ H.size ≤ T'.heap.size ∧ (∀ q : Nat, q < H.size → ¬ A q → T'.heap[q]? = H[q]?) ∧
    ∀ target, Steps p.tables e below ((T'.setTop { g with stack := rest }).pushFrame (.throwing y)) target → Steps p.tables e below (T.setTop g) target
set_option maxHeartbeats 1000000 in
theorem tx_back {y : MethodName} {ws : List Cond} {rm : Room} {Pc : Array Value → State → Prop} {E : String} {A : Nat → Prop} {mc ms wd : Nat} {bytes : ByteArray} {maxL : Nat} {ret : Option FieldType}
    (hM : MeT l y ws rm Pc E A mc ms) (hblind : FrameBlind Pc) (hrc : rm.cells = mc) (hrs : rm.slots = ms) (hframes : rm.frames + 1 ≤ R.frames) (hlocals : wd + (maxL + 11) + rm.locals ≤ R.locals)
    (hws : ∀ w ∈ ws, ∀ a' U, s.WarmedH U.vm → w.before a' U = true) (hcode : Cond.code y bytes maxL ret ∈ ws) (hinit : ∀ a' U, s.WarmedH U.vm → (Cond.initialized y.cls).before a' U = true)
    {U : State} {g : JFrame} {ig : Instr} {len : Nat} {mk : MethodId} {a : Array Value} (X : Stand p l e R s m args below meth c U locs cells slots) (hg : g.method = m) (hsize : g.locals.size = c.maxLocals) (hdg : decode c.code g.pc = .ok (ig, len))
    (hW : 2 * g.monitorRoom + (g.stack.map fun v => v.category).sum ≤ wd) (hn : U.methodNamed? y = some mk) (hcl : cells + mc ≤ R.cells) (hsl : slots + ms ≤ R.slots) (hPc : Pc a U) :
    ∃ (z : Addr) (t T' : State) (L : List Loc), Stand p l e R s m args below meth c T' (locs ++ L) (cells + mc) (slots + ms) ∧ (∀ q ∈ L, A q.base) ∧ T'.heap = t.heap ∧ tx_Q E A (U.calling g mk a) (.threw z) t ∧
      Steps p.tables e below (doInvoke e (U.setTop g) [] mk a).1 ((T'.setTop g).pushFrame (.throwing z)) := by
  have h1 : (headSpec ws rm).pre.before a U = true := atoms_intro fun w hw => hws w hw _ _ X.warmed
  have h2 : (Cond.code y bytes maxL ret).before a U = true := hws _ hcode _ _ X.warmed
  have h3 := hinit a U X.warmed
  obtain ⟨methY, cY, hmY, hcY, -, hlY, -, -, -, -⟩ := Cond.code_spec hn h2
  obtain ⟨kY, hkY, -⟩ := className_of_methodNamed hn
  have hinitY : kY.init = .initialized := Cond.initialized_spec (findClass_of_methodNamed hn) hkY h3
  have h : At U g.method c below := by rw [hg]; exact X.here
  have hz : (headSpec ws rm).room.locals = rm.locals := rfl
  have happ : (headSpec ws rm).appliesLoose y e.platform (U.calling g mk a) = true :=
    Spec.appliesLoose_calling (g := g) h hdg hn hkY hinitY
      (X.room_calling (g := g) (R' := (headSpec ws rm).room) hsize hmY hcY hframes (by rw [hlY, hz]; omega) (by show cells + rm.cells ≤ R.cells; omega) (by show slots + rm.slots ≤ R.slots; omega)) h1
  obtain ⟨mid, hmid⟩ := h.above
  have hfr : (U.setTop g).frames = (.java g :: mid) ++ below := by rw [State.frames_setTop' g h.top, hmid]; rfl
  obtain ⟨o, s₂, hsteps, -, hend, hq, L, hFE, hL⟩ := Steps.callFree hM p X.admits X.cas X.clock (acts := []) hfr happ (hblind _ _ _ _ hPc) trivial
  obtain ⟨⟨z, ce, rfl, hz1, hz2, hz3, hz4⟩, hF⟩ := id hq
  rw [State.frames_setTop' g h.top, X.tail] at hend
  obtain ⟨T', X', -, -, ht⟩ := X.outOfThrown hg (mk := mk) (a := a) (t := s₂) (x := z) (L := L) (k := mc) (n := ms) hend hFE.1 hFE.2
  refine ⟨z, s₂, T', L, X', hL, ?_, hq, ?_⟩
  · rw [ht]
    rfl
  · rw [← ht]
    exact hsteps
variable {cc bytes : ByteArray} {nL maxL index n mc ms : Nat} {own C : String} {y : MethodName} {ret : Option FieldType} {ws : List Cond} {rm : Room} {Pc : Array Value → State → Prop} {E : String} {A : Nat → Prop} {Ts : List Cond} {b : Addr} {As rest : List Value} {g : JFrame}
/-- a call of an instance method that throws -/
theorem tx_runV (S : CallFix p m c cc nL s args Ts own) (hM : MeT l y ws rm Pc E A mc ms) (cw : CallW R s args own C index y bytes maxL ret ws rm mc ms n) (hp : PreV s H C b Pc As)
    (hg : g.method = m) (hn : As.length = n) (hsize : g.locals.size = nL) (hstack : g.stack = As.reverse ++ .ref b :: rest) (hW : 2 * g.monitorRoom + (rest.map fun v => v.category).sum ≤ 8) (hdg : decode cc g.pc = .ok (.invokevirtual index, 3)) (hf : cells + mc ≤ R.cells ∧ slots + ms ≤ R.slots) :
    tx_Thr p l e R s m args below meth c H locs cells slots mc ms g rest E A := by
  obtain ⟨⟨hrc, hrs, hfr, hlo, hws, hcw, hcode, hini, hy, hlen, hlk⟩, hin, hse⟩ := cw
  obtain ⟨hx, hb, hml, hown, -⟩ := S
  obtain ⟨hbl, ⟨cellB, hcB, hoB, hclB⟩, hPc⟩ := hp
  intro T hT X
  obtain ⟨mk, methM, hnamed, hmethM, hstM, habM⟩ := Cond.instanceMethod_spec hin
  obtain ⟨methM', cM, hmethM', -, -, -, -, -, -, hsigM⟩ := Cond.code_spec hnamed hcode
  cases hmethM.symm.trans hmethM'
  obtain ⟨c2, r2, m2, q1, q2, q3, q4, kP, hkP, hkPi⟩ := Cond.selects_spec hse
  cases hclB.symm.trans q1
  cases (State.methodFound?_of_named hnamed hy).symm.trans q2
  cases hnamed.symm.trans q3
  have hselP : selectMethod e.platform s.vm cellB.cls mk = .method mk := by rw [Launch.admits_selectMethod X.admits]; exact q4
  obtain ⟨vm₁, X₁, hstep₁⟩ := X.invokevirtual hx hown hlk hnamed hmethM hstM hkP hkPi hy (a := b) (cell := cellB) (by rw [hT]; exact hcB)
    (fun z h => by rw [h] at hoB; cases hoB) hselP hmethM habM hkP hkPi (g := g) hg (argsL := As) (rest := rest) (hn.trans (hlen _ hsigM)) hstack (by rw [hb]; exact hdg)
  obtain ⟨z, t, T', L, X', hL, e1, hq, hsteps⟩ := tx_back (wd := 8) (bytes := bytes) (maxL := maxL) (ret := ret) hM hbl hrc hrs hfr hlo hws hcw (fun a' U hW => word_at hW (Or.inl (by first | rfl | simp [Cond.onTables, Cond.keeps, Cond.steady])) hini)
    X₁ (g := { g with stack := rest }) (a := (Value.ref b :: As).toArray) hg (hsize.trans hml.symm) (by rw [hb]; exact hdg) hW (X₁.named hnamed) hf.1 hf.2 (hPc _ hT X₁.warmed)
  obtain ⟨⟨z', ce, hz0, hz1, hz2, hz3, hz4⟩, hF1, hF2⟩ := hq
  cases hz0
  have hh : ((T.setVm vm₁).calling { g with stack := rest } mk (Value.ref b :: As).toArray).heap = H := hT
  rw [hh] at hz1 hF1 hF2
  have hal : s.vm.Alike vm₁ := X₁.warmed.alike
  refine ⟨z, ce, T', L, X', hL, hz1, by rw [e1]; exact hz2, hz3, ?_, by rw [e1]; exact hF1, fun q h1 h2 => by rw [e1]; exact hF2 q h1 h2, fun target h => hstep₁ _ fun acts => by rw [doInvoke_state]; exact hsteps.trans h⟩
  rw [← hal.findClass]
  exact hz4
/-- the caller has no handlers: it throws on -/
theorem tx_on {pc : Nat} {ls : Array Slot} {st0 : List Value} {A0 : Nat → Prop} (hr : tx_Thr p l e R s m args below meth c H locs cells slots mc ms (F0 m pc ls st0) rest E A) (hx : c.exceptionTable.isEmpty = true) (hlocks : meth.locks = false)
    (hS : va_S A0 s.heap H locs) (hA : ∀ q, A q → A0 q) :
    W p l e R s m args below meth c H locs cells slots (tx_MQ below E A0 s (cells + mc) (slots + ms)) (F0 m pc ls st0) := by
  intro T hT X
  obtain ⟨z, ce, T', L, X', hL, h1, h2, h3, h4, h5, h6, st⟩ := hr T hT X
  obtain ⟨w1, w2, w3, w4, w5⟩ := X'.leaveThrown z (g := { F0 m pc ls st0 with stack := rest }) rfl rfl rfl (tx_noH hx _) hlocks
  have hLL : ∀ q ∈ locs ++ L, A0 q.base := fun q hq => (List.mem_append.mp hq).elim (hS.2.2 q) (fun h => hA _ (hL q h))
  have hk := tx_keep w5 hLL
  exact ⟨_, st _ w1, .threw z, w2, w3, ⟨⟨z, ce, rfl, Nat.le_trans hS.1 h1, h2, h3, h4⟩, hk.1, hk.2⟩, locs ++ L, ⟨w4, w5⟩, hLL⟩
end TXB
end
section
/-! THE CALLER CATCHES: the search through its table, each entry's class resolved or not yet. -/
/-- an object of the class E is not of the class C -/
def tx_NC (E C : String) (U : State) : Prop := ∀ cE cC : ClassId, U.vm.findClass E = some cE → U.vm.findClass C = some cC → U.vm.assignable cE cC = false
theorem tx_NC.moved {E C : String} {u U : State} (hvm : u.vm.Alike U.vm) (h : tx_NC E C u) : tx_NC E C U := by
  intro cE cC h1 h2
  rw [hvm.findClass] at h1 h2
  rw [hvm.assignable]
  exact h cE cC h1 h2
abbrev tx_f : ExceptionTableEntry → Nat × Nat × Nat × Nat := fun h => (h.startPc, h.endPc, h.handlerPc, h.catchType)
section TXC
variable {p : Program} {l : Launch} {e : Env} {R : Room} {s : State} {m : MethodId} {args : Array Value} {below : List Frame} {meth : Method} {c : Code} {H : Heap} {locs : List Loc} {cells slots mc ms : Nat} {Q : State → Prop}
theorem tx_go1 {QH : Handler → Pre} {EH : CtlPost} {d : Bool} {acts : List Action} {u : State} {f : JFrame} {a : Addr} {y : ExceptionTableEntry} {t : List ExceptionTableEntry} {k : ClassId} {cell : Cell} {vm' : Vm} (hx : covers y f.pc = true) (h0 : y.catchType ≠ 0)
    (hg : (Jvm.resolveClass f.method.cls y.catchType).Gives e.toSetting u.vm (.ok k) vm') (hsz : vm'.classes.size ≤ u.vm.classes.size) (hcell : u.heap[a]? = some cell) (hobj : ∀ k, cell.vm ≠ .statics k)
    (hk : ∃ k, vm'.classes[cell.cls]? = some k) (hc : ∃ q, vm'.classes[k]? = some q) :
    wp (findHandler.go f a (y :: t)) QH EH e d acts u ↔ if vm'.assignable cell.cls k = true then QH (.found y.handlerPc) d acts (u.setVm vm') else wp (findHandler.go f a t) QH EH e d acts (u.setVm vm') := by
  simp only [covers] at hx
  obtain ⟨ha, ht⟩ := hg.op (op := VmOp.resolveClass f.method.cls y.catchType) rfl
  have hcell' : (u.setVm vm').heap[a]? = some cell := hcell
  cases hfit : vm'.assignable cell.cls k <;>
    simp [findHandler.go, hx, h0, ha, ht, hsz, hcell, hobj, hk, hc, hfit, VmOp.dirties, VmOp.acts]
/-- entries that are passed, then the one that takes it -/
theorem tx_search {own : String} (hown : s.vm.findClass own = some m.cls) (hpl : e.platform.magicAccessors = ({} : Platform).magicAccessors) {f : JFrame} (hf : f.method = m) {z : Addr} {ce : Cell} {E : String} (hE : s.vm.findClass E = some ce.cls) (hst : ce.vm.isStatics = false)
    {x : Nat × Nat × Nat × Nat} {post : List (Nat × Nat × Nat × Nat)} (hx : (decide (x.1 ≤ f.pc) && decide (f.pc < x.2.1)) = true) (hx0 : x.2.2.2 ≠ 0) {C : String} (hlk : (Cond.classLink own x.2.2.2 C).before args s = true) (hyes : (Cond.castable E C).before args s = true) :
    ∀ (pre : List (Nat × Nat × Nat × Nat)) (tb : List ExceptionTableEntry), tb.map tx_f = pre ++ x :: post →
      (∀ y ∈ pre, (decide (y.1 ≤ f.pc) && decide (f.pc < y.2.1)) = true ∧ y.2.2.2 ≠ 0 ∧ ∃ D, (Cond.classLink own y.2.2.2 D).before args s = true ∧ tx_NC E D s) →
      ∀ vm0 : Vm, s.WarmedH vm0 → ∃ vm' : Vm, s.WarmedH vm' ∧ ∀ (QH : Handler → Pre) (EH : CtlPost) (d : Bool) (acts : List Action) (u : State), u.vm = vm0 → u.heap[z]? = some ce →
        (wp (findHandler.go f z tb) QH EH e d acts u ↔ QH (.found x.2.2.1) d acts (u.setVm vm')) := by
  have hobj : ∀ k, ce.vm ≠ .statics k := fun k h => by rw [h] at hst; cases hst
  intro pre
  induction pre with
  | nil =>
    intro tb htb _ vm0 hW0
    cases tb with
    | nil => cases htb
    | cons y t =>
      simp only [List.map_cons, List.nil_append, List.cons.injEq] at htb
      obtain ⟨h1, -⟩ := htb
      subst h1
      obtain ⟨cC, hfC, hcl⟩ := Cond.classLink_spec hown hlk e.platform hpl
      obtain ⟨hg₁, hwarm₁, hready₁⟩ := State.classEntry (e := e) hW0 hcl
      obtain ⟨k1, k2, hk1, hk2, hasg⟩ := Cond.castable_spec (show (Cond.castable E C).holds args s none s [] = true from hyes)
      cases hE.symm.trans hk1
      cases hfC.symm.trans hk2
      refine ⟨_, hwarm₁, fun QH EH d acts u hu hz => ?_⟩
      have hal := hwarm₁.alike
      rw [tx_go1 (k := cC) (cell := ce) (vm' := vm0.noted m.cls y.catchType (.cls cC)) hx hx0 (by rw [hu, hf]; exact hg₁) (by rw [hu, Vm.size_noted]; exact Nat.le_refl _) hz hobj
        (Vm.classAt_of_findClass (name := E) (by rw [hal.findClass]; exact hE)) (Vm.classAt_of_findClass (name := C) (by rw [hal.findClass]; exact hfC)), if_pos (by rw [hal.assignable]; exact hasg)]
  | cons q pre ih =>
    intro tb htb hpre vm0 hW0
    cases tb with
    | nil => cases htb
    | cons y t =>
      simp only [List.map_cons, List.cons_append, List.cons.injEq] at htb
      obtain ⟨h1, h2⟩ := htb
      obtain ⟨hc1, hc2, D, hD1, hD2⟩ := hpre q List.mem_cons_self
      subst h1
      obtain ⟨cC, hfC, hcl⟩ := Cond.classLink_spec hown hD1 e.platform hpl
      obtain ⟨hg₁, hwarm₁, hready₁⟩ := State.classEntry (e := e) hW0 hcl
      obtain ⟨vm', hW', hrest⟩ := ih t h2 (fun y hy => hpre y (List.mem_cons_of_mem _ hy)) _ hwarm₁
      refine ⟨vm', hW', fun QH EH d acts u hu hz => ?_⟩
      have hal := hwarm₁.alike
      rw [tx_go1 (k := cC) (cell := ce) (vm' := vm0.noted m.cls y.catchType (.cls cC)) hc1 hc2 (by rw [hu, hf]; exact hg₁) (by rw [hu, Vm.size_noted]; exact Nat.le_refl _) hz hobj
        (Vm.classAt_of_findClass (name := E) (by rw [hal.findClass]; exact hE)) (Vm.classAt_of_findClass (name := D) (by rw [hal.findClass]; exact hfC)), if_neg (by rw [hal.assignable, hD2 _ _ hE hfC]; decide)]
      exact hrest QH EH d acts (u.setVm _) rfl hz
/-- a call throws, and the method catches it -/
theorem tx_catch {E own C : String} {A A0 : Nat → Prop} {pc : Nat} {ls : Array Slot} {st0 rest : List Value} (hr : tx_Thr p l e R s m args below meth c H locs cells slots mc ms (F0 m pc ls st0) rest E A) (hown : s.vm.findClass own = some m.cls)
    (hS : va_S A0 s.heap H locs) (hA : ∀ q, A q → A0 q) {hs : List (Nat × Nat × Nat × Nat)} (htab : c.exceptionTable.toList.map tx_f = hs)
    (pre post : List (Nat × Nat × Nat × Nat)) (x : Nat × Nat × Nat × Nat) (hsp : hs = pre ++ x :: post) (hx : (decide (x.1 ≤ pc) && decide (pc < x.2.1)) = true) (hx0 : x.2.2.2 ≠ 0) (hlk : (Cond.classLink own x.2.2.2 C).before args s = true) (hyes : (Cond.castable E C).before args s = true)
    (hpre : ∀ y ∈ pre, (decide (y.1 ≤ pc) && decide (pc < y.2.1)) = true ∧ y.2.2.2 ≠ 0 ∧ ∃ D, (Cond.classLink own y.2.2.2 D).before args s = true ∧ tx_NC E D s)
    (kk : ∀ (z : Nat) (H1 : Heap) (locs1 : List Loc), H.size ≤ H1.size → (∀ q : Nat, q < H.size → ¬ A q → H1[q]? = H[q]?) → va_S A0 s.heap H1 locs1 → W p l e R s m args below meth c H1 locs1 (cells + mc) (slots + ms) Q (F0 m x.2.2.1 ls [.ref z])) :
    W p l e R s m args below meth c H locs cells slots Q (F0 m pc ls st0) := by
  intro T hT X
  obtain ⟨z, ce, T', L, X', hL, h1, h2, h3, h4, h5, h6, st⟩ := hr T hT X
  have hpl : e.platform.magicAccessors = ({} : Platform).magicAccessors := by rw [X.admits.platform]
  obtain ⟨vm', hW', hfind⟩ := tx_search (e := e) (m := m) (args := args) hown hpl (f := { F0 m pc ls st0 with stack := rest }) rfl (z := z) h4 h3 (x := x) (post := post) hx hx0 hlk hyes pre c.exceptionTable.toList (htab.trans hsp) hpre T'.vm X'.warmed
  have hLL : ∀ q ∈ locs ++ L, A0 q.base := fun q hq => (List.mem_append.mp hq).elim (hS.2.2 q) (fun h => hA _ (hL q h))
  have hk := tx_keep X'.same hLL
  have hN := X'.noted hW'
  obtain ⟨t2, a1, b1⟩ := kk z T'.heap (locs ++ L) h5 h6 ⟨hk.1, hk.2, hLL⟩ (T'.setVm vm') rfl hN
  refine ⟨t2, st _ ?_, b1⟩
  have hAt : At T' m c below := X'.here
  obtain ⟨hgo, hw⟩ := At.throwing (g := { F0 m pc ls st0 with stack := rest }) hAt z
  refine Steps.head hgo hw ?_
  rw [stepThread_throwing (frames_entered hAt.top _)]
  have hcat : (stepThrowing e ((T'.setTop { F0 m pc ls st0 with stack := rest }).pushFrame (.throwing z)) z (.java { F0 m pc ls st0 with stack := rest } :: T'.frames.tail)).1 = (((T'.setTop { F0 m pc ls st0 with stack := rest }).pushFrame (.throwing z)).setVm vm').setFrames (.java (F0 m x.2.2.1 ls [.ref z]) :: T'.frames.tail) := by
    simp only [stepThrowing, searchFrame, vmDo]
    generalize hr : Sem.go _ e false [] _ = res
    obtain ⟨as, rfl, ha⟩ := Sem.eq_ok_of hr (a := Handler.found x.2.2.1) (s' := ((T'.setTop { F0 m pc ls st0 with stack := rest }).pushFrame (.throwing z)).setVm vm') (acts' := [])
      (by
        have hm' : ((T'.setTop { F0 m pc ls st0 with stack := rest }).pushFrame (.throwing z)).vm.method? m = some meth := X'.method'
        have hfe := fun (QH : Handler → Pre) (EH : CtlPost) (d : Bool) (acts : List Action) => (W.findHandler_eq (e := e) (s := (T'.setTop { F0 m pc ls st0 with stack := rest }).pushFrame (.throwing z)) (f := { F0 m pc ls st0 with stack := rest }) (a := z) (Q := QH) (E := EH) (d := d) (acts := acts) hm' X'.code).trans (hfind QH EH d acts _ rfl h2)
        simp [hfe])
    rfl
  rw [hcat]
  obtain ⟨g₀, hg⟩ := Option.isSome_iff_exists.mp hAt.top
  obtain ⟨r, hr'⟩ := State.topJava?_eq_some.mp hg
  have hr2 : (T'.setVm vm').frames = .java g₀ :: r := hr'
  rw [State.setTop_of_frames _ hr2] at a1
  have hcm : ∀ (V : State) (fs : List Frame) (v : Vm), (V.setFrames fs).setVm v = (V.setVm v).setFrames fs := fun _ _ _ => rfl
  rw [State.pushFrame, State.setTop_of_frames _ hr', State.setFrames_setFrames, hr', hcm, State.setFrames_setFrames]
  exact a1
end TXC
end
section
/-! METHODS WITH HANDLERS: their contracts, and static calls of them. -/
section TXW
variable {p : Program} {l : Launch} {e : Env} {R : Room} {s : State} {m : MethodId} {args : Array Value} {below : List Frame} {meth : Method} {c : Code} {H : Heap} {locs : List Loc} {cells slots : Nat}
theorem tx_ofW {y : MethodName} {ws ws' : List Cond} {rm : Room} {Pc : Array Value → State → Prop} {Qc : Array Value → State → Outcome → State → Prop} {mc ms : Nat} {free : Addr → Prop} {cc : ByteArray} {maxL : Nat} {ret : Option FieldType} {hs : List (Nat × Nat × Nat × Nat)}
    (hy : plainName y.cls = true) (hw : ws = Cond.codeWith y cc maxL ret hs :: ws')
    (body : ∀ p e s m args below meth c s₁, BodyLoose p l y (headSpec ws rm) cc maxL ret e s m args below meth c s₁ → c.maxLocals = maxL → c.exceptionTable.toList.map tx_f = hs → Pc args s →
      W p l e (headSpec ws rm).room s m args below meth c s.heap [] 0 0 (MQ below Qc args s mc ms free) (entryFrame m args maxL)) : Met l y ws rm Pc Qc mc ms free := by
  refine MetFree.of_bodyS (code := cc) (maxLocals := maxL) (ret := ret) hy ?_ ?_
  · intro args s m h hn
    obtain ⟨m', meth, c, hn', h1, h2, h3, h4, -, h5, h6, -⟩ := Cond.codeWith_spec (show (Cond.codeWith y cc maxL ret hs).holds args s none s [] = true from atoms_spec (ws := ws) h _ (by rw [hw]; exact List.mem_cons_self))
    cases hn.symm.trans hn'
    exact ⟨meth, c, h1, h2, h3, h4, h5, h6⟩
  · intro p e s m args below meth c s₁ B hml hP _
    have hh0 : s₁.heap = s.heap := by rw [B.state]; rfl
    obtain ⟨m', meth', c', hn', h1, h2, -, -, h4, -⟩ := Cond.codeWith_spec (show (Cond.codeWith y cc maxL ret hs).holds args s none s [] = true from atoms_spec (ws := ws) B.pre _ (by rw [hw]; exact List.mem_cons_self))
    cases B.named.symm.trans hn'
    cases B.method.symm.trans h1
    cases (Stand.of_body B).code.symm.trans h2
    obtain ⟨t, a1, o, b1, b2, b3⟩ := body p e s m args below meth c s₁ B hml h4 hP s₁ hh0 (Stand.of_body B)
    exact ⟨t, o, a1, b1, b2, ⟨b3.1, b3.2⟩⟩
variable {y : MethodName} {bytes cc : ByteArray} {maxL nL mc ms n index : Nat} {ret : Option FieldType} {ws : List Cond} {rm : Room} {Pc : Array Value → State → Prop} {Qc : Array Value → State → Outcome → State → Prop} {free : Addr → Prop} {Ts : List Cond} {own : String} {As rest : List Value} {g : JFrame} {hs : List (Nat × Nat × Nat × Nat)}
abbrev tx_CW (R : Room) (s : State) (args : Array Value) (own : String) (index : Nat) (y : MethodName) (bytes : ByteArray) (maxL : Nat) (ret : Option FieldType) (hs : List (Nat × Nat × Nat × Nat)) (ws : List Cond) (rm : Room) (mc ms n : Nat) : Prop :=
  rm.cells = mc ∧ rm.slots = ms ∧ rm.frames + 1 ≤ R.frames ∧ 8 + (maxL + 11) + rm.locals ≤ R.locals ∧ (∀ w ∈ ws, ∀ (a' : Array Value) (U : State), s.WarmedH U.vm → w.before a' U = true) ∧ Cond.codeWith y bytes maxL ret hs ∈ ws ∧
  (Cond.codeWith y bytes maxL ret hs).before args s = true ∧ (Cond.initialized y.cls).before args s = true ∧ (y.cls ≠ "java/lang/invoke/MethodHandle" ∧ y.cls ≠ "java/lang/invoke/VarHandle") ∧ (∀ sig, parseMethodDescriptor y.desc = some sig → n = sig.parameters.length) ∧ (Cond.methodLink own index y).before args s = true ∧ (Cond.static y).before args s = true
theorem tx_backW (hM : Met l y ws rm Pc Qc mc ms free) (hblind : FrameBlind Pc) (cw : tx_CW R s args own index y bytes maxL ret hs ws rm mc ms n) : Back l R p e below s args y 3 8 (PreOf R mc ms Pc) (PostOf Qc mc ms free) := by
  obtain ⟨hrc, hrs, hframes, hlocals, hws, hcode, -, hini, -⟩ := cw
  have hinit : ∀ (a' : Array Value) (U : State), s.WarmedH U.vm → (Cond.initialized y.cls).before a' U = true := fun a' U hW => word_at hW (Or.inl (by first | rfl | simp [Cond.onTables, Cond.keeps, Cond.steady])) hini
  refine Back.of_freeWith (S := headSpec ws rm) (P := Pc) (K := fun _ _ _ _ _ => True) (Q := fun a st o t => Qc a st o t ∧ ∃ L, FrameEnd st o t L mc ms ∧ ∀ q ∈ L, free q.base) (bytes := bytes) (maxL := maxL) (ret := ret) (handlers := hs)
    (E := fun a st o t L k n => k = mc ∧ n = ms ∧ ∀ q ∈ L, free q.base) hM hframes hlocals ?_ ?_ (fun _ _ _ _ _ _ _ _ _ => trivial) ?_ ?_
  · intro m meth c A a X hp
    exact ⟨atoms_intro fun w hw => hws w hw _ _ X.warmed, hws _ hcode _ _ X.warmed, hinit _ _ X.warmed, by rw [show (headSpec ws rm).room.cells = mc from hrc]; exact hp.1, by rw [show (headSpec ws rm).room.slots = ms from hrs]; exact hp.2.1⟩
  · intro m meth c A a g mk X hp
    exact hblind _ _ _ _ hp.2.2
  · intro a st o t ⟨hq, L, hF, hL⟩
    exact ⟨L, mc, ms, hF, rfl, rfl, hL⟩
  · intro m meth c A a g mk v t L k n X hp hq hF ⟨e1, e2, hL⟩
    subst e1; subst e2
    exact ⟨g, mk, t, L, rfl, rfl, hq.1, rfl, hL, rfl, rfl⟩
/-- a static call of a method with handlers -/
theorem tx_runSW (S : CallFix p m c cc nL s args Ts own) (hM : Met l y ws rm Pc Qc mc ms free) (cw : tx_CW R s args own index y bytes maxL ret hs ws rm mc ms n) (hp : PreS s H Pc As)
    (hg : g.method = m) (hn : As.length = n) (hsize : g.locals.size = nL) (hstack : g.stack = As.reverse ++ rest) (hW : 2 * g.monitorRoom + (rest.map fun v => v.category).sum ≤ 8) (hdg : decode cc g.pc = .ok (.invokestatic index, 3)) (hf : cells + mc ≤ R.cells ∧ slots + ms ≤ R.slots) :
    va_Run p l e R s m args below meth c H locs cells slots mc ms g rest (Qc As.toArray) (free) := by
  have hK : Back l R p e below s args y 3 8 (PreOf R mc ms Pc) (PostOf Qc mc ms free) := tx_backW hM hp.1 cw
  obtain ⟨-, -, -, -, -, -, hcode, hini, hy, hlen, hlk, hstat⟩ := cw
  obtain ⟨hx, hb, hml, hown, -⟩ := S
  intro T hT X
  obtain ⟨mk, methM, cM, hnamed, hmethM, -, -, -, -, -, -, hsigM⟩ := Cond.codeWith_spec (show (Cond.codeWith y bytes maxL ret hs).holds args s none s [] = true from hcode)
  have hstatic : methM.isStatic = true := Cond.static_spec hnamed hmethM hstat
  obtain ⟨kP, hkP, -⟩ := className_of_methodNamed hnamed
  have hinitP : kP.init = .initialized := Cond.initialized_spec (findClass_of_methodNamed hnamed) hkP hini
  obtain ⟨vm₁, X₁, hstep₁⟩ := X.invokestatic hx hown hlk hnamed hmethM hstatic hkP hinitP hy (g := g) hg (argsL := As) (rest := rest) (hn.trans (hlen _ hsigM)) hstack (by rw [hb]; exact hdg)
  obtain ⟨v, ⟨U', l2, c2, s2⟩, X', ⟨g', mk', t, L, e1, e2, hq, h1, hL, h2, h3⟩, hsteps⟩ := hK m meth c ⟨T.setVm vm₁, locs, cells, slots⟩ { g with stack := rest } (.invokestatic index) mk As.toArray X₁ hg (hsize.trans hml.symm) (by rw [hb]; exact hdg) hW (X₁.named hnamed) ⟨hf.1, hf.2, hp.2 (T.setVm vm₁) hT X₁.warmed⟩
  dsimp only [Pt.U, Pt.locs, Pt.cells, Pt.slots] at X' e1 e2 h1 h2 h3 hsteps
  subst h1; subst h2; subst h3
  exact ⟨v, (T.setVm vm₁).calling g' mk' As.toArray, t, U', L, hT, X', hL, e1, e2, hq, fun target h => hstep₁ _ fun acts => by rw [doInvoke_state]; exact hsteps.trans h⟩
end TXW
end
section
/-! multianewarray of two dimensions (no row of the kit) -/
theorem mn_instr {tb : Tables} [Ours tb] {e : Env} {below : List Frame} {s : State} {f : JFrame} {c : Code} {i : Instr} {len : Nat} {Ψ : State → Prop} (h : At s f.method c below) (hd : decode c.code f.pc = .ok (i, len))
    (hw : wpRun (tb.exec i) (fun _ s₁ _ => Ψ s₁) (fun _ _ _ => False) e (s.setTop f)) : ∃ s₁, Ψ s₁ ∧ ∀ target, (∀ acts, Steps tb e below (afterInstr e len (.ok () s₁ acts)).1 target) → Steps tb e below (s.setTop f) target := by
  have hw2 := (wpRun_iff_run _ _ _ _ _).mp hw
  cases hr : (tb.exec i).run e (s.setTop f) with
  | ok a s₁ acts =>
    rw [hr] at hw2
    refine ⟨s₁, hw2, fun target ht => Steps.instr h ?_⟩
    rw [hd]
    refine (wpRun_iff_run _ _ _ _ _).mpr ?_
    rw [hr]
    exact ht
  | ctl x s₁ acts =>
    rw [hr] at hw2
    cases x <;> exact hw2.elim
theorem mn_inner {E : CtlPost} {e : Env} {d : Bool} {acts : List Action} {u : State} {k : ClassId} {kB : Class} {kc : ClassId} {Q : Addr → Pre} (hk : u.vm.classes[k]? = some kB) (hkind : kB.kind = .array kc .boolean) (hlim : e.platform.arrayLengthLimit = 2147483645) (hheap : e.platform.maxHeapBytes = 536870912)
    (hc : u.heap.size < e.platform.maxCells) (hs : u.slotsUsed + 1000 ≤ e.platform.maxSlots) (hq : ∀ acts', Q u.heap.size d acts' (u.pushCell { cls := k, slots := Array.replicate 1000 (.int 0) })) :
    wp (multianewarray.make k [1000]) Q E e d acts u := by
  have hn : ¬ (1000 : Int32) < 0 := by decide
  have h1000 : (1000 : Int32).toNatClampNeg = 1000 := by decide
  rw [multianewarray.make]
  simp only [wp_bind', W.ite, hn, if_false, wp_pure', W.theClass]
  refine ⟨kB, hk, ?_⟩
  rw [hkind, h1000]
  exact W.newArray_of hk hkind (by rw [hlim]; decide) (by rw [hheap]; decide) hc hs rfl hq
theorem mn_outer {E : CtlPost} {e : Env} {d : Bool} {acts : List Action} {u : State} {k kc : ClassId} {kA : Class} {Q : Addr → Pre} (I : List Nat → State → Prop) (hk : u.vm.classes[k]? = some kA) (hkind : kA.kind = .array kc (.array .boolean)) (hlim : e.platform.arrayLengthLimit = 2147483645) (hheap : e.platform.maxHeapBytes = 536870912)
    (hc : u.heap.size < e.platform.maxCells) (hs : u.slotsUsed + 8 ≤ e.platform.maxSlots) (h0 : I (List.range' 0 8 1) (u.pushCell { cls := k, slots := Array.replicate 8 .null }))
    (hstep : ∀ i rest s' d' acts' (Q' : Unit → Pre), I (i :: rest) s' → (∀ s'' d'' acts'', I rest s'' → Q' () d'' acts'' s'') → wp (do writeLoc u.heap.size i (.ref (← multianewarray.make kc [1000]))) Q' E e d' acts' s')
    (hq : ∀ s' d' acts', I [] s' → Q u.heap.size d' acts' s') : wp (multianewarray.make k [8, 1000]) Q E e d acts u := by
  have hn : ¬ (8 : Int32) < 0 := by decide
  have h8 : (8 : Int32).toNatClampNeg = 8 := by decide
  have h80 : ¬ ((8 : Int32) == 0) = true := by decide
  rw [multianewarray.make]
  simp only [wp_bind', W.ite, hn, if_false, wp_pure', W.theClass]
  refine ⟨kA, hk, ?_⟩
  rw [hkind, h8]
  simp only [wp_bind', W.ite, h80, if_false, wp_pure']
  refine W.newArray_of hk hkind (by rw [hlim]; decide) (by rw [hheap]; decide) hc hs rfl fun acts' => ?_
  simp only [Bool.false_eq_true, if_false, wp_bind']
  rw [Std.Legacy.Range.forIn_eq_forIn_range']
  refine wp_forIn_inv I _ _ h0 ?_ ?_
  case refine_2 =>
    intro s' d' acts2 hI
    simp only [wp_pure']
    exact hq s' d' acts2 hI
  intro i rest s' d' acts2 Q' hI hQ'
  have h := hstep i rest s' d' acts2 (fun _ d a s => Q' (ForInStep.yield PUnit.unit) d a s) hI hQ'
  simp only [wp_bind'] at h ⊢
  have he : (fun a : Addr => wp (do writeLoc u.heap.size i (.ref a); Pure.pure (ForInStep.yield PUnit.unit)) Q' E e) = (fun a : Addr => wp (writeLoc u.heap.size i (.ref a)) (fun _ d a s => Q' (ForInStep.yield PUnit.unit) d a s) E e) := by
    funext a d2 a2 s2
    exact propext (by simp only [wp_bind', wp_pure', W.writeLoc])
  rw [he]
  exact h
section MN
variable {p : Program} {l : Launch} {e : Env} {R : Room} {s : State} {m : MethodId} {args : Array Value} {below : List Frame} {meth : Method} {c : Code} {H : Heap} {locs : List Loc} {cells slots : Nat} {Q : State → Prop}
variable {pc : Nat} {ls : Array Slot} {rest : List Value} {A : Nat → Prop}
set_option maxHeartbeats 4000000 in
theorem mn_core {cc : ByteArray} (hexec : p.tables.exec = Jvm.exec) (hb : c.code = cc) {own : String} {index : Nat} (hown : s.vm.findClass own = some m.cls) (hcl : (Cond.classLink own index "[[Z").before args s = true)
    (hover : (Cond.arrayOver (.array .boolean)).before args s = true) (harr : (Cond.arrayClass .boolean).before args s = true) (hdg : decode cc pc = .ok (.multianewarray index 2, 4)) (hcells : cells + 9 ≤ R.cells) (hslots : slots + 8008 ≤ R.slots)
    {T : State} (hT : T.heap = H) (X : Stand p l e R s m args below meth c T locs cells slots) :
    ∃ (U : State) (L : List Loc) (a : Nat), Stand p l e R s m args below meth c U (locs ++ L) (cells + 9) (slots + 8008) ∧ (∀ q ∈ L, H.size ≤ q.base) ∧ H.size ≤ U.heap.size ∧ (∀ q : Nat, q < H.size → U.heap[q]? = H[q]?) ∧
      ∀ tg, Steps p.tables e below (U.setTop (F0 m (pc + 4) ls (.ref a :: rest))) tg → Steps p.tables e below (T.setTop (F0 m pc ls (.int 1000 :: .int 8 :: rest))) tg := by
  subst hb
  have hpl : e.platform.magicAccessors = ({} : Platform).magicAccessors := by rw [X.admits.platform]
  obtain ⟨comp, cA, kA, hcomp, hidx, hkA, hkindA, hnameA⟩ := arrayOverA_spec hover
  obtain ⟨kComp, hkComp, -⟩ := Vm.findClass_spec hcomp
  obtain ⟨cc', hfcc, hcl2⟩ := Cond.classLink_spec hown hcl e.platform hpl
  have hcA : cc' = cA := Option.some.inj (hfcc.symm.trans hnameA)
  subst hcA
  obtain ⟨hg₁, hwarm₁, hready₁⟩ := State.classEntry (e := e) X.warmed hcl2
  have hsz₁ : (T.vm.noted m.cls index (.cls cc')).classes.size ≤ T.vm.classes.size := by rw [Vm.size_noted]; exact Nat.le_refl _
  generalize T.vm.noted m.cls index (.cls cc') = vm₁ at hg₁ hwarm₁ hready₁ hsz₁
  have hal : s.vm.Alike vm₁ := hwarm₁.alike
  obtain ⟨kA₁, hkA₁, heA⟩ := hal.2.2 _ _ hkA
  have hkindA₁ : kA₁.kind = .array comp (.array .boolean) := by rw [heA]; exact hkindA
  obtain ⟨cB, kB, compB, hfB, hkB, hkindB⟩ := Cond.arrayClass_spec (show (Cond.arrayClass .boolean).holds args s none s [] = true from harr)
  have hcB : comp = cB := Option.some.inj (hcomp.symm.trans hfB)
  subst hcB
  obtain ⟨kB₁, hkB₁, heB⟩ := hal.2.2 _ _ hkB
  have hkindB₁ : kB₁.kind = .array compB .boolean := by rw [heB]; exact hkindB
  have X₁ := X.noted hwarm₁
  obtain ⟨s₁, ⟨U, L, a, he, XU, hL, hsz, hold⟩, hst⟩ := mn_instr (tb := p.tables) (e := e) (below := below) (s := T) (f := F0 m pc ls (.int 1000 :: .int 8 :: rest)) (c := c)
    (Ψ := fun s₁ => ∃ (U : State) (L : List Loc) (a : Nat), s₁ = U.setTop (F0 m pc ls (.ref a :: rest)) ∧ Stand p l e R s m args below meth c U (locs ++ L) (cells + 9) (slots + 8008) ∧ (∀ q ∈ L, H.size ≤ q.base) ∧ H.size ≤ U.heap.size ∧ (∀ q : Nat, q < H.size → U.heap[q]? = H[q]?))
    X.here hdg (by
      rw [hexec]
      have hm1 : (T.setTop (F0 m pc ls (.int 1000 :: .int 8 :: rest))).method? = some m := State.method?_setTop _ X.here.top
      simp only [wpRun, exec, multianewarray.sem, wp_bind', W.resolveClassAt_links (e := e) (t := T.setTop (F0 m pc ls (.int 1000 :: .int 8 :: rest))) hm1 (show (Jvm.resolveClass m.cls index).Gives e.toSetting (T.setTop (F0 m pc ls (.int 1000 :: .int 8 :: rest))).vm (.ok cc') vm₁ from hg₁) hsz₁]
      have htop1 : (T.setVm vm₁).topJava?.isSome := X₁.here.top
      have hpop := fun (QL : List Value → Pre) (EH : CtlPost) (d : Bool) (acts : List Action) => popN_top (Q := QL) (E := EH) (e := e) (d := d) (acts := acts) (s := T.setVm vm₁) (f := F0 m pc ls (.int 1000 :: .int 8 :: rest)) htop1 (args := [.int 8, .int 1000]) (rest := rest) rfl
      rw [show (T.setTop (F0 m pc ls (.int 1000 :: .int 8 :: rest))).setVm vm₁ = (T.setVm vm₁).setTop (F0 m pc ls (.int 1000 :: .int 8 :: rest)) from rfl]
      refine (hpop _ _ _ _).mpr ?_
      simp only [wp_bind', List.mapM_cons, List.mapM_nil, wp_pure']
      have hlim := Launch.admits_arrayLengthLimit X.admits
      have hheap := Launch.admits_maxHeapBytes X.admits
      obtain ⟨r1, r2⟩ := X₁.heapHas (a := 1) (b := 8) (by omega) (by omega)
      have hH : (T.setVm vm₁).heap.size = H.size := by rw [← hT]; rfl
      refine mn_outer (fun rs s' => ∃ (U : State) (L : List Loc) (cO : Cell), s' = U.setTop (F0 m pc ls rest) ∧ rs.length ≤ 8 ∧ Stand p l e R s m args below meth c U (locs ++ L) (cells + 1 + (8 - rs.length)) (slots + 8 + 1000 * (8 - rs.length)) ∧ (∀ i ∈ rs, i < 8) ∧ (∀ q ∈ L, H.size ≤ q.base) ∧ H.size < U.heap.size ∧ (∀ q : Nat, q < H.size → U.heap[q]? = H[q]?) ∧ U.heap[H.size]? = some cO ∧ cO.cls = cc' ∧ cO.vm = .none ∧ cO.slots.size = 8 ∧ U.vm = vm₁)
        (show ((T.setVm vm₁).setTop (F0 m pc ls rest)).vm.classes[cc']? = some kA₁ from hkA₁) hkindA₁ hlim hheap (by show (T.setVm vm₁).heap.size < _; omega) (by show (T.setVm vm₁).slotsUsed + 8 ≤ _; omega) ?_ ?_ ?_
      · refine ⟨(T.setVm vm₁).pushCell { cls := cc', slots := Array.replicate 8 .null }, [], ({ cls := cc', slots := Array.replicate 8 .null } : Cell), rfl, by decide, ?_, by decide, fun q hq => (by cases hq), ?_, ?_, ?_, rfl, rfl, by simp, rfl⟩
        · have h := X₁.pushed { cls := cc', slots := Array.replicate 8 .null }
          simpa using h
        · show H.size < ((T.setVm vm₁).heap.push _).size
          rw [Array.size_push, hH]; omega
        · intro q hq
          show ((T.setVm vm₁).heap.push _)[q]? = _
          rw [Array.getElem?_push, if_neg (by rw [hH]; omega), ← hT]
          rfl
        · show ((T.setVm vm₁).heap.push _)[H.size]? = _
          rw [← hH, Array.getElem?_push_size]
      · intro i rs s' d' acts' Q' hI hQ'
        obtain ⟨U, L, cO, rfl, hlen, XU, hin, hL, hlt, hold, hcO, hc1, hc2, hc3, hvm⟩ := hI
        simp only [List.length_cons] at hlen XU
        obtain ⟨r3, r4⟩ := XU.heapHas (a := 1) (b := 1000) (by omega) (by omega)
        simp only [wp_bind']
        refine mn_inner (kB := kB₁) (kc := compB) (by show U.vm.classes[_]? = _; rw [hvm]; exact hkB₁) hkindB₁ hlim hheap (by show U.heap.size < _; omega) (by show U.slotsUsed + 1000 ≤ _; omega) fun acts2 => ?_
        have hcell : (U.pushCell { cls := comp, slots := Array.replicate 1000 (.int 0) }).heap[H.size]? = some cO := by
          show (U.heap.push _)[H.size]? = _
          rw [Array.getElem?_push, if_neg (by omega)]
          exact hcO
        refine (W.writeLoc _ _ _ _).mpr ⟨cO, ?_, by rw [hc2]; decide, by rw [hc3]; exact hin i List.mem_cons_self, ?_, ?_⟩
        · rw [show ((T.setVm vm₁).setTop (F0 m pc ls rest)).heap.size = H.size from hH]
          exact hcell
        · rw [hc1, hc2]
          have hkA2 : U.vm.classes[cc']? = some kA₁ := by rw [hvm]; exact hkA₁
          simp [State.fitsSlot, State.slotType?, hkA2, hkindA₁, fits]
        · refine hQ' _ _ _ ⟨(U.pushCell { cls := comp, slots := Array.replicate 1000 (.int 0) }).setCell H.size (cO.setSlot i (.ref U.heap.size)), L ++ [⟨H.size, i⟩], cO.setSlot i (.ref U.heap.size), ?_, by omega, ?_, fun j hj => hin j (List.mem_cons_of_mem _ hj), ?_, ?_, ?_, ?_, hc1, hc2, by rw [k2_slotsz]; exact hc3, hvm⟩
          · rw [show ((T.setVm vm₁).setTop (F0 m pc ls rest)).heap.size = H.size from hH]
            rfl
          · have h := (XU.pushed { cls := comp, slots := Array.replicate 1000 (.int 0) }).stored hcell i (.ref U.heap.size)
            rw [List.append_assoc] at h
            rw [show cells + 1 + (8 - rs.length) = cells + 1 + (8 - (rs.length + 1)) + 1 by omega, show slots + 8 + 1000 * (8 - rs.length) = slots + 8 + 1000 * (8 - (rs.length + 1)) + 1000 by omega]
            simpa using h
          · intro q hq
            rcases List.mem_append.mp hq with h | h
            · exact hL q h
            · rw [List.mem_singleton.mp h]
              exact Nat.le_refl _
          · rw [size_setCell, size_pushCell]; omega
          · intro q hq
            show ((U.heap.push _).setIfInBounds H.size _)[q]? = _
            rw [Array.getElem?_setIfInBounds, if_neg (by omega), Array.getElem?_push, if_neg (by omega)]
            exact hold q hq
          · show ((U.heap.push _).setIfInBounds H.size _)[H.size]? = _
            rw [Array.getElem?_setIfInBounds, if_pos rfl, if_pos (by rw [Array.size_push]; omega)]
      · intro s' d' acts' hI
        obtain ⟨U, L, cO, rfl, hlen, XU, hin, hL, hlt, hold, -⟩ := hI
        simp only [wp_bind', W.mark, W.pushRef, State.topJava?_setTop' _ XU.here.top, Option.some.injEq, exists_eq_left', State.setTop_setTop]
        exact ⟨U, L, _, rfl, XU, hL, by omega, hold⟩)
  refine ⟨U, L, a, XU, hL, hsz, hold, fun tg h => hst tg fun acts => ?_⟩
  rw [he, afterInstr_ok]
  exact h
/-- the same, in the walk's words: the old cells stay, a reference lies on the stack -/
theorem tx_mnew {cc : ByteArray} {D : va_G} {cl : List vw_C} {ws : va_W} (hexec : p.tables.exec = Jvm.exec) (hb : c.code = cc) {own : String} {index : Nat} (hown : s.vm.findClass own = some m.cls) (hcl : (Cond.classLink own index "[[Z").before args s = true)
    (hover : (Cond.arrayOver (.array .boolean)).before args s = true) (harr : (Cond.arrayClass .boolean).before args s = true) (hP : va_P D cl ws H) (hS : va_S A s.heap H locs) (hA : ∀ q, s.heap.size ≤ q → A q) (hcells : cells + 9 ≤ R.cells) (hslots : slots + 8008 ≤ R.slots) (hdg : decode cc pc = .ok (.multianewarray index 2, 4))
    (kk : ∀ (a : Nat) (H1 : Heap) (locs1 : List Loc), va_P D cl ws H1 → va_S A s.heap H1 locs1 → W p l e R s m args below meth c H1 locs1 (cells + 9) (slots + 8008) Q (F0 m (pc + 4) ls (.ref a :: rest))) : W p l e R s m args below meth c H locs cells slots Q (F0 m pc ls (.int 1000 :: .int 8 :: rest)) := by
  intro T hT X
  obtain ⟨U, L, a, XU, hL, hsz, hold, st⟩ := mn_core hexec hb hown hcl hover harr hdg hcells hslots hT X
  obtain ⟨t, a1, b1⟩ := kk a U.heap (locs ++ L) (hP.kept (fun k x hx => hold _ ((hP k x hx).lt))) ⟨Nat.le_trans hS.1 hsz, fun q h1 h2 => (hold q (Nat.lt_of_lt_of_le h1 hS.1)).trans (hS.2.1 q h1 h2), fun q hq => (List.mem_append.mp hq).elim (hS.2.2 q) (fun h => hA _ (Nat.le_trans hS.1 (hL q h)))⟩ U rfl XU
  exact ⟨t, st t a1, b1⟩
end MN
end
section
theorem zz_end : True := trivial
end

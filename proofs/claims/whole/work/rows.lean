section
/-- a private method of a class that the tables say can be made, by its rows of tables_1 -/
def lw_okq (q : MethodName × Nat) : Prop := (q.1.cls ≠ "java/lang/invoke/MethodHandle" ∧ q.1.cls ≠ "java/lang/invoke/VarHandle") ∧ Cond.instantiable q.1.cls q.2 ∈ tables_1 ∧ Cond.privateMethod q.1 ∈ tables_1 ∧ Cond.instanceMethod q.1 ∈ tables_1
theorem lw_p0 : lw_okq (⟨"MergeLine", "isTakenState", "(I)Z"⟩, 3) := ⟨⟨by decide +kernel, by decide +kernel⟩, List.mem_of_getElem? (i := 15) (by decide +kernel), List.mem_of_getElem? (i := 346) (by decide +kernel), List.mem_of_getElem? (i := 347) (by decide +kernel)⟩
theorem lw_p1 : lw_okq (⟨"MergeLine", "isChange", "(I)Z"⟩, 3) := ⟨⟨by decide +kernel, by decide +kernel⟩, List.mem_of_getElem? (i := 15) (by decide +kernel), List.mem_of_getElem? (i := 414) (by decide +kernel), List.mem_of_getElem? (i := 415) (by decide +kernel)⟩
theorem lw_p2 : lw_okq (⟨"MergeLine$Hall", "findLone", "()I"⟩, 7) := ⟨⟨by decide +kernel, by decide +kernel⟩, List.mem_of_getElem? (i := 23) (by decide +kernel), List.mem_of_getElem? (i := 598) (by decide +kernel), List.mem_of_getElem? (i := 599) (by decide +kernel)⟩
theorem lw_p3 : lw_okq (⟨"MergeLine$Hall", "isReadyAt", "(I)Z"⟩, 7) := ⟨⟨by decide +kernel, by decide +kernel⟩, List.mem_of_getElem? (i := 23) (by decide +kernel), List.mem_of_getElem? (i := 602) (by decide +kernel), List.mem_of_getElem? (i := 603) (by decide +kernel)⟩
theorem lw_p4 : lw_okq (⟨"MergeLine$Hall", "isReady", "(I)Z"⟩, 7) := ⟨⟨by decide +kernel, by decide +kernel⟩, List.mem_of_getElem? (i := 23) (by decide +kernel), List.mem_of_getElem? (i := 611) (by decide +kernel), List.mem_of_getElem? (i := 612) (by decide +kernel)⟩
theorem lw_p5 : lw_okq (⟨"MergeLine$Hall", "gather", "()V"⟩, 7) := ⟨⟨by decide +kernel, by decide +kernel⟩, List.mem_of_getElem? (i := 23) (by decide +kernel), List.mem_of_getElem? (i := 631) (by decide +kernel), List.mem_of_getElem? (i := 632) (by decide +kernel)⟩
theorem lw_p6 : lw_okq (⟨"MergeLine$Hall", "unitComes", "(III)Z"⟩, 7) := ⟨⟨by decide +kernel, by decide +kernel⟩, List.mem_of_getElem? (i := 23) (by decide +kernel), List.mem_of_getElem? (i := 645) (by decide +kernel), List.mem_of_getElem? (i := 646) (by decide +kernel)⟩
theorem lw_p7 : lw_okq (⟨"MergeLine$Pile", "push", "(III)V"⟩, 8) := ⟨⟨by decide +kernel, by decide +kernel⟩, List.mem_of_getElem? (i := 144) (by decide +kernel), List.mem_of_getElem? (i := 663) (by decide +kernel), List.mem_of_getElem? (i := 664) (by decide +kernel)⟩
theorem lw_p8 : lw_okq (⟨"MergeLine$Hall", "sendBack", "(II)V"⟩, 7) := ⟨⟨by decide +kernel, by decide +kernel⟩, List.mem_of_getElem? (i := 23) (by decide +kernel), List.mem_of_getElem? (i := 668) (by decide +kernel), List.mem_of_getElem? (i := 669) (by decide +kernel)⟩
theorem lw_p9 : lw_okq (⟨"MergeLine$Hall", "gatherLone", "(I)V"⟩, 7) := ⟨⟨by decide +kernel, by decide +kernel⟩, List.mem_of_getElem? (i := 23) (by decide +kernel), List.mem_of_getElem? (i := 673) (by decide +kernel), List.mem_of_getElem? (i := 674) (by decide +kernel)⟩
theorem lw_p10 : lw_okq (⟨"MergeLine$Pile", "dropUnits", "(II)V"⟩, 8) := ⟨⟨by decide +kernel, by decide +kernel⟩, List.mem_of_getElem? (i := 144) (by decide +kernel), List.mem_of_getElem? (i := 696) (by decide +kernel), List.mem_of_getElem? (i := 697) (by decide +kernel)⟩
theorem lw_p11 : lw_okq (⟨"MergeLine$Hall", "isTouchedByTop", "(I)Z"⟩, 7) := ⟨⟨by decide +kernel, by decide +kernel⟩, List.mem_of_getElem? (i := 23) (by decide +kernel), List.mem_of_getElem? (i := 718) (by decide +kernel), List.mem_of_getElem? (i := 719) (by decide +kernel)⟩
theorem lw_p12 : lw_okq (⟨"MergeLine$Pile", "changesAhead", "(I)I"⟩, 8) := ⟨⟨by decide +kernel, by decide +kernel⟩, List.mem_of_getElem? (i := 144) (by decide +kernel), List.mem_of_getElem? (i := 728) (by decide +kernel), List.mem_of_getElem? (i := 729) (by decide +kernel)⟩
theorem lw_p13 : lw_okq (⟨"MergeLine$Ledger", "setFact", "(II)V"⟩, 3) := ⟨⟨by decide +kernel, by decide +kernel⟩, List.mem_of_getElem? (i := 177) (by decide +kernel), List.mem_of_getElem? (i := 748) (by decide +kernel), List.mem_of_getElem? (i := 749) (by decide +kernel)⟩
theorem lw_p14 : lw_okq (⟨"MergeLine$Hall", "takeTop", "()V"⟩, 7) := ⟨⟨by decide +kernel, by decide +kernel⟩, List.mem_of_getElem? (i := 23) (by decide +kernel), List.mem_of_getElem? (i := 758) (by decide +kernel), List.mem_of_getElem? (i := 759) (by decide +kernel)⟩
theorem lw_p15 : lw_okq (⟨"MergeLine$Hall", "failTop", "()V"⟩, 7) := ⟨⟨by decide +kernel, by decide +kernel⟩, List.mem_of_getElem? (i := 23) (by decide +kernel), List.mem_of_getElem? (i := 791) (by decide +kernel), List.mem_of_getElem? (i := 792) (by decide +kernel)⟩
def lw_privs_1 : List (MethodName × Nat) := [(⟨"MergeLine", "isTakenState", "(I)Z"⟩, 3), (⟨"MergeLine", "isChange", "(I)Z"⟩, 3), (⟨"MergeLine$Hall", "findLone", "()I"⟩, 7), (⟨"MergeLine$Hall", "isReadyAt", "(I)Z"⟩, 7), (⟨"MergeLine$Hall", "isReady", "(I)Z"⟩, 7), (⟨"MergeLine$Hall", "gather", "()V"⟩, 7), (⟨"MergeLine$Hall", "unitComes", "(III)Z"⟩, 7), (⟨"MergeLine$Pile", "push", "(III)V"⟩, 8), (⟨"MergeLine$Hall", "sendBack", "(II)V"⟩, 7), (⟨"MergeLine$Hall", "gatherLone", "(I)V"⟩, 7), (⟨"MergeLine$Pile", "dropUnits", "(II)V"⟩, 8), (⟨"MergeLine$Hall", "isTouchedByTop", "(I)Z"⟩, 7), (⟨"MergeLine$Pile", "changesAhead", "(I)I"⟩, 8), (⟨"MergeLine$Ledger", "setFact", "(II)V"⟩, 3), (⟨"MergeLine$Hall", "takeTop", "()V"⟩, 7), (⟨"MergeLine$Hall", "failTop", "()V"⟩, 7)]
theorem lw_r1 : ∀ q ∈ lw_privs_1, lw_okq q := List.forall_mem_cons.mpr ⟨lw_p0, List.forall_mem_cons.mpr ⟨lw_p1, List.forall_mem_cons.mpr ⟨lw_p2, List.forall_mem_cons.mpr ⟨lw_p3, List.forall_mem_cons.mpr ⟨lw_p4, List.forall_mem_cons.mpr ⟨lw_p5, List.forall_mem_cons.mpr ⟨lw_p6, List.forall_mem_cons.mpr ⟨lw_p7, List.forall_mem_cons.mpr ⟨lw_p8, List.forall_mem_cons.mpr ⟨lw_p9, List.forall_mem_cons.mpr ⟨lw_p10, List.forall_mem_cons.mpr ⟨lw_p11, List.forall_mem_cons.mpr ⟨lw_p12, List.forall_mem_cons.mpr ⟨lw_p13, List.forall_mem_cons.mpr ⟨lw_p14, List.forall_mem_cons.mpr ⟨lw_p15, fun _ h => absurd h List.not_mem_nil⟩⟩⟩⟩⟩⟩⟩⟩⟩⟩⟩⟩⟩⟩⟩⟩
theorem lw_p16 : lw_okq (⟨"MergeLineModel", "lines", "(II)I"⟩, 6) := ⟨⟨by decide +kernel, by decide +kernel⟩, List.mem_of_getElem? (i := 945) (by decide +kernel), List.mem_of_getElem? (i := 983) (by decide +kernel), List.mem_of_getElem? (i := 984) (by decide +kernel)⟩
theorem lw_p17 : lw_okq (⟨"MergeLineModel", "isTest", "(I)Z"⟩, 6) := ⟨⟨by decide +kernel, by decide +kernel⟩, List.mem_of_getElem? (i := 945) (by decide +kernel), List.mem_of_getElem? (i := 1012) (by decide +kernel), List.mem_of_getElem? (i := 1013) (by decide +kernel)⟩
theorem lw_p18 : lw_okq (⟨"MergeLineModel", "isSo", "(II)Z"⟩, 6) := ⟨⟨by decide +kernel, by decide +kernel⟩, List.mem_of_getElem? (i := 945) (by decide +kernel), List.mem_of_getElem? (i := 1025) (by decide +kernel), List.mem_of_getElem? (i := 1026) (by decide +kernel)⟩
theorem lw_p19 : lw_okq (⟨"MergeLineModel", "givers", "(II)I"⟩, 6) := ⟨⟨by decide +kernel, by decide +kernel⟩, List.mem_of_getElem? (i := 945) (by decide +kernel), List.mem_of_getElem? (i := 1029) (by decide +kernel), List.mem_of_getElem? (i := 1030) (by decide +kernel)⟩
theorem lw_p20 : lw_okq (⟨"MergeLineModel", "newChange", "(I)I"⟩, 6) := ⟨⟨by decide +kernel, by decide +kernel⟩, List.mem_of_getElem? (i := 945) (by decide +kernel), List.mem_of_getElem? (i := 1041) (by decide +kernel), List.mem_of_getElem? (i := 1042) (by decide +kernel)⟩
theorem lw_p21 : lw_okq (⟨"MergeLineModel", "isChange", "(I)Z"⟩, 6) := ⟨⟨by decide +kernel, by decide +kernel⟩, List.mem_of_getElem? (i := 945) (by decide +kernel), List.mem_of_getElem? (i := 1057) (by decide +kernel), List.mem_of_getElem? (i := 1058) (by decide +kernel)⟩
theorem lw_p22 : lw_okq (⟨"MergeLineModel", "hasFile", "(II)Z"⟩, 6) := ⟨⟨by decide +kernel, by decide +kernel⟩, List.mem_of_getElem? (i := 945) (by decide +kernel), List.mem_of_getElem? (i := 1062) (by decide +kernel), List.mem_of_getElem? (i := 1063) (by decide +kernel)⟩
theorem lw_p23 : lw_okq (⟨"MergeLineModel", "markAt", "(II)I"⟩, 6) := ⟨⟨by decide +kernel, by decide +kernel⟩, List.mem_of_getElem? (i := 945) (by decide +kernel), List.mem_of_getElem? (i := 1070) (by decide +kernel), List.mem_of_getElem? (i := 1071) (by decide +kernel)⟩
theorem lw_p24 : lw_okq (⟨"MergeLineModel", "fitsAt", "(IIZ)I"⟩, 6) := ⟨⟨by decide +kernel, by decide +kernel⟩, List.mem_of_getElem? (i := 945) (by decide +kernel), List.mem_of_getElem? (i := 1083) (by decide +kernel), List.mem_of_getElem? (i := 1084) (by decide +kernel)⟩
theorem lw_p25 : lw_okq (⟨"MergeLineModel", "fitsIn", "(II)Z"⟩, 6) := ⟨⟨by decide +kernel, by decide +kernel⟩, List.mem_of_getElem? (i := 945) (by decide +kernel), List.mem_of_getElem? (i := 1095) (by decide +kernel), List.mem_of_getElem? (i := 1096) (by decide +kernel)⟩
theorem lw_p26 : lw_okq (⟨"MergeLineModel", "isTouched", "(II)Z"⟩, 6) := ⟨⟨by decide +kernel, by decide +kernel⟩, List.mem_of_getElem? (i := 945) (by decide +kernel), List.mem_of_getElem? (i := 1103) (by decide +kernel), List.mem_of_getElem? (i := 1104) (by decide +kernel)⟩
theorem lw_p27 : lw_okq (⟨"MergeLineModel", "gives", "(II)Z"⟩, 6) := ⟨⟨by decide +kernel, by decide +kernel⟩, List.mem_of_getElem? (i := 945) (by decide +kernel), List.mem_of_getElem? (i := 1107) (by decide +kernel), List.mem_of_getElem? (i := 1108) (by decide +kernel)⟩
theorem lw_p28 : lw_okq (⟨"MergeLineModel", "out", "(II)V"⟩, 6) := ⟨⟨by decide +kernel, by decide +kernel⟩, List.mem_of_getElem? (i := 945) (by decide +kernel), List.mem_of_getElem? (i := 1120) (by decide +kernel), List.mem_of_getElem? (i := 1121) (by decide +kernel)⟩
theorem lw_p29 : lw_okq (⟨"MergeLineModel", "placeOf", "(I)I"⟩, 6) := ⟨⟨by decide +kernel, by decide +kernel⟩, List.mem_of_getElem? (i := 945) (by decide +kernel), List.mem_of_getElem? (i := 1124) (by decide +kernel), List.mem_of_getElem? (i := 1125) (by decide +kernel)⟩
theorem lw_p30 : lw_okq (⟨"MergeLineModel", "makeBatch", "()Z"⟩, 6) := ⟨⟨by decide +kernel, by decide +kernel⟩, List.mem_of_getElem? (i := 945) (by decide +kernel), List.mem_of_getElem? (i := 1142) (by decide +kernel), List.mem_of_getElem? (i := 1143) (by decide +kernel)⟩
theorem lw_p31 : lw_okq (⟨"MergeLineModel", "firstReady", "(I)I"⟩, 6) := ⟨⟨by decide +kernel, by decide +kernel⟩, List.mem_of_getElem? (i := 945) (by decide +kernel), List.mem_of_getElem? (i := 1146) (by decide +kernel), List.mem_of_getElem? (i := 1147) (by decide +kernel)⟩
def lw_privs_2 : List (MethodName × Nat) := [(⟨"MergeLineModel", "lines", "(II)I"⟩, 6), (⟨"MergeLineModel", "isTest", "(I)Z"⟩, 6), (⟨"MergeLineModel", "isSo", "(II)Z"⟩, 6), (⟨"MergeLineModel", "givers", "(II)I"⟩, 6), (⟨"MergeLineModel", "newChange", "(I)I"⟩, 6), (⟨"MergeLineModel", "isChange", "(I)Z"⟩, 6), (⟨"MergeLineModel", "hasFile", "(II)Z"⟩, 6), (⟨"MergeLineModel", "markAt", "(II)I"⟩, 6), (⟨"MergeLineModel", "fitsAt", "(IIZ)I"⟩, 6), (⟨"MergeLineModel", "fitsIn", "(II)Z"⟩, 6), (⟨"MergeLineModel", "isTouched", "(II)Z"⟩, 6), (⟨"MergeLineModel", "gives", "(II)Z"⟩, 6), (⟨"MergeLineModel", "out", "(II)V"⟩, 6), (⟨"MergeLineModel", "placeOf", "(I)I"⟩, 6), (⟨"MergeLineModel", "makeBatch", "()Z"⟩, 6), (⟨"MergeLineModel", "firstReady", "(I)I"⟩, 6)]
theorem lw_r2 : ∀ q ∈ lw_privs_2, lw_okq q := List.forall_mem_cons.mpr ⟨lw_p16, List.forall_mem_cons.mpr ⟨lw_p17, List.forall_mem_cons.mpr ⟨lw_p18, List.forall_mem_cons.mpr ⟨lw_p19, List.forall_mem_cons.mpr ⟨lw_p20, List.forall_mem_cons.mpr ⟨lw_p21, List.forall_mem_cons.mpr ⟨lw_p22, List.forall_mem_cons.mpr ⟨lw_p23, List.forall_mem_cons.mpr ⟨lw_p24, List.forall_mem_cons.mpr ⟨lw_p25, List.forall_mem_cons.mpr ⟨lw_p26, List.forall_mem_cons.mpr ⟨lw_p27, List.forall_mem_cons.mpr ⟨lw_p28, List.forall_mem_cons.mpr ⟨lw_p29, List.forall_mem_cons.mpr ⟨lw_p30, List.forall_mem_cons.mpr ⟨lw_p31, fun _ h => absurd h List.not_mem_nil⟩⟩⟩⟩⟩⟩⟩⟩⟩⟩⟩⟩⟩⟩⟩⟩
theorem lw_p32 : lw_okq (⟨"MergeLineModel", "isFirst", "(I)Z"⟩, 6) := ⟨⟨by decide +kernel, by decide +kernel⟩, List.mem_of_getElem? (i := 945) (by decide +kernel), List.mem_of_getElem? (i := 1150) (by decide +kernel), List.mem_of_getElem? (i := 1151) (by decide +kernel)⟩
theorem lw_p33 : lw_okq (⟨"MergeLineModel", "isReady", "(I)Z"⟩, 6) := ⟨⟨by decide +kernel, by decide +kernel⟩, List.mem_of_getElem? (i := 945) (by decide +kernel), List.mem_of_getElem? (i := 1154) (by decide +kernel), List.mem_of_getElem? (i := 1155) (by decide +kernel)⟩
theorem lw_p34 : lw_okq (⟨"MergeLineModel", "isFree", "(I)Z"⟩, 6) := ⟨⟨by decide +kernel, by decide +kernel⟩, List.mem_of_getElem? (i := 945) (by decide +kernel), List.mem_of_getElem? (i := 1158) (by decide +kernel), List.mem_of_getElem? (i := 1159) (by decide +kernel)⟩
theorem lw_p35 : lw_okq (⟨"MergeLineModel", "hasKind", "(II)Z"⟩, 6) := ⟨⟨by decide +kernel, by decide +kernel⟩, List.mem_of_getElem? (i := 945) (by decide +kernel), List.mem_of_getElem? (i := 1162) (by decide +kernel), List.mem_of_getElem? (i := 1163) (by decide +kernel)⟩
theorem lw_p36 : lw_okq (⟨"MergeLineModel", "makeAlone", "(I)V"⟩, 6) := ⟨⟨by decide +kernel, by decide +kernel⟩, List.mem_of_getElem? (i := 945) (by decide +kernel), List.mem_of_getElem? (i := 1166) (by decide +kernel), List.mem_of_getElem? (i := 1167) (by decide +kernel)⟩
theorem lw_p37 : lw_okq (⟨"MergeLineModel", "fitsAlone", "(I)Z"⟩, 6) := ⟨⟨by decide +kernel, by decide +kernel⟩, List.mem_of_getElem? (i := 945) (by decide +kernel), List.mem_of_getElem? (i := 1170) (by decide +kernel), List.mem_of_getElem? (i := 1171) (by decide +kernel)⟩
theorem lw_p38 : lw_okq (⟨"MergeLineModel", "copyState", "(II)V"⟩, 6) := ⟨⟨by decide +kernel, by decide +kernel⟩, List.mem_of_getElem? (i := 945) (by decide +kernel), List.mem_of_getElem? (i := 1174) (by decide +kernel), List.mem_of_getElem? (i := 1175) (by decide +kernel)⟩
theorem lw_p39 : lw_okq (⟨"MergeLineModel", "unitComes", "(II)Z"⟩, 6) := ⟨⟨by decide +kernel, by decide +kernel⟩, List.mem_of_getElem? (i := 945) (by decide +kernel), List.mem_of_getElem? (i := 1178) (by decide +kernel), List.mem_of_getElem? (i := 1179) (by decide +kernel)⟩
theorem lw_p40 : lw_okq (⟨"MergeLineModel", "comes", "(II)Z"⟩, 6) := ⟨⟨by decide +kernel, by decide +kernel⟩, List.mem_of_getElem? (i := 945) (by decide +kernel), List.mem_of_getElem? (i := 1182) (by decide +kernel), List.mem_of_getElem? (i := 1183) (by decide +kernel)⟩
theorem lw_p41 : lw_okq (⟨"MergeLineModel", "apply", "(II)V"⟩, 6) := ⟨⟨by decide +kernel, by decide +kernel⟩, List.mem_of_getElem? (i := 945) (by decide +kernel), List.mem_of_getElem? (i := 1186) (by decide +kernel), List.mem_of_getElem? (i := 1187) (by decide +kernel)⟩
theorem lw_p42 : lw_okq (⟨"MergeLineModel", "moveLine", "(IIII)V"⟩, 6) := ⟨⟨by decide +kernel, by decide +kernel⟩, List.mem_of_getElem? (i := 945) (by decide +kernel), List.mem_of_getElem? (i := 1190) (by decide +kernel), List.mem_of_getElem? (i := 1191) (by decide +kernel)⟩
theorem lw_p43 : lw_okq (⟨"MergeLineModel", "newRow", "(I)V"⟩, 6) := ⟨⟨by decide +kernel, by decide +kernel⟩, List.mem_of_getElem? (i := 945) (by decide +kernel), List.mem_of_getElem? (i := 1194) (by decide +kernel), List.mem_of_getElem? (i := 1195) (by decide +kernel)⟩
theorem lw_p44 : lw_okq (⟨"MergeLineModel", "addUnit", "(I)V"⟩, 6) := ⟨⟨by decide +kernel, by decide +kernel⟩, List.mem_of_getElem? (i := 945) (by decide +kernel), List.mem_of_getElem? (i := 1202) (by decide +kernel), List.mem_of_getElem? (i := 1203) (by decide +kernel)⟩
theorem lw_p45 : lw_okq (⟨"MergeLineModel", "unitOut", "(III)V"⟩, 6) := ⟨⟨by decide +kernel, by decide +kernel⟩, List.mem_of_getElem? (i := 945) (by decide +kernel), List.mem_of_getElem? (i := 1207) (by decide +kernel), List.mem_of_getElem? (i := 1208) (by decide +kernel)⟩
theorem lw_p46 : lw_okq (⟨"MergeLineModel", "makeMany", "()V"⟩, 6) := ⟨⟨by decide +kernel, by decide +kernel⟩, List.mem_of_getElem? (i := 945) (by decide +kernel), List.mem_of_getElem? (i := 1211) (by decide +kernel), List.mem_of_getElem? (i := 1212) (by decide +kernel)⟩
theorem lw_p47 : lw_okq (⟨"MergeLineModel", "lookThrough", "(I)V"⟩, 6) := ⟨⟨by decide +kernel, by decide +kernel⟩, List.mem_of_getElem? (i := 945) (by decide +kernel), List.mem_of_getElem? (i := 1215) (by decide +kernel), List.mem_of_getElem? (i := 1216) (by decide +kernel)⟩
def lw_privs_3 : List (MethodName × Nat) := [(⟨"MergeLineModel", "isFirst", "(I)Z"⟩, 6), (⟨"MergeLineModel", "isReady", "(I)Z"⟩, 6), (⟨"MergeLineModel", "isFree", "(I)Z"⟩, 6), (⟨"MergeLineModel", "hasKind", "(II)Z"⟩, 6), (⟨"MergeLineModel", "makeAlone", "(I)V"⟩, 6), (⟨"MergeLineModel", "fitsAlone", "(I)Z"⟩, 6), (⟨"MergeLineModel", "copyState", "(II)V"⟩, 6), (⟨"MergeLineModel", "unitComes", "(II)Z"⟩, 6), (⟨"MergeLineModel", "comes", "(II)Z"⟩, 6), (⟨"MergeLineModel", "apply", "(II)V"⟩, 6), (⟨"MergeLineModel", "moveLine", "(IIII)V"⟩, 6), (⟨"MergeLineModel", "newRow", "(I)V"⟩, 6), (⟨"MergeLineModel", "addUnit", "(I)V"⟩, 6), (⟨"MergeLineModel", "unitOut", "(III)V"⟩, 6), (⟨"MergeLineModel", "makeMany", "()V"⟩, 6), (⟨"MergeLineModel", "lookThrough", "(I)V"⟩, 6)]
theorem lw_r3 : ∀ q ∈ lw_privs_3, lw_okq q := List.forall_mem_cons.mpr ⟨lw_p32, List.forall_mem_cons.mpr ⟨lw_p33, List.forall_mem_cons.mpr ⟨lw_p34, List.forall_mem_cons.mpr ⟨lw_p35, List.forall_mem_cons.mpr ⟨lw_p36, List.forall_mem_cons.mpr ⟨lw_p37, List.forall_mem_cons.mpr ⟨lw_p38, List.forall_mem_cons.mpr ⟨lw_p39, List.forall_mem_cons.mpr ⟨lw_p40, List.forall_mem_cons.mpr ⟨lw_p41, List.forall_mem_cons.mpr ⟨lw_p42, List.forall_mem_cons.mpr ⟨lw_p43, List.forall_mem_cons.mpr ⟨lw_p44, List.forall_mem_cons.mpr ⟨lw_p45, List.forall_mem_cons.mpr ⟨lw_p46, List.forall_mem_cons.mpr ⟨lw_p47, fun _ h => absurd h List.not_mem_nil⟩⟩⟩⟩⟩⟩⟩⟩⟩⟩⟩⟩⟩⟩⟩⟩
theorem lw_p48 : lw_okq (⟨"MergeLineModel", "run", "(I)V"⟩, 6) := ⟨⟨by decide +kernel, by decide +kernel⟩, List.mem_of_getElem? (i := 945) (by decide +kernel), List.mem_of_getElem? (i := 1219) (by decide +kernel), List.mem_of_getElem? (i := 1220) (by decide +kernel)⟩
theorem lw_p49 : lw_okq (⟨"MergeLineModel", "changesOf", "(I)I"⟩, 6) := ⟨⟨by decide +kernel, by decide +kernel⟩, List.mem_of_getElem? (i := 945) (by decide +kernel), List.mem_of_getElem? (i := 1223) (by decide +kernel), List.mem_of_getElem? (i := 1224) (by decide +kernel)⟩
theorem lw_p50 : lw_okq (⟨"MergeLineModel", "isHeld", "(II)Z"⟩, 6) := ⟨⟨by decide +kernel, by decide +kernel⟩, List.mem_of_getElem? (i := 945) (by decide +kernel), List.mem_of_getElem? (i := 1227) (by decide +kernel), List.mem_of_getElem? (i := 1228) (by decide +kernel)⟩
theorem lw_p51 : lw_okq (⟨"MergeLineModel", "cut", "(I)V"⟩, 6) := ⟨⟨by decide +kernel, by decide +kernel⟩, List.mem_of_getElem? (i := 945) (by decide +kernel), List.mem_of_getElem? (i := 1236) (by decide +kernel), List.mem_of_getElem? (i := 1237) (by decide +kernel)⟩
theorem lw_p52 : lw_okq (⟨"MergeLineModel", "isInWork", "(I)Z"⟩, 6) := ⟨⟨by decide +kernel, by decide +kernel⟩, List.mem_of_getElem? (i := 945) (by decide +kernel), List.mem_of_getElem? (i := 1245) (by decide +kernel), List.mem_of_getElem? (i := 1246) (by decide +kernel)⟩
def lw_privs_4 : List (MethodName × Nat) := [(⟨"MergeLineModel", "run", "(I)V"⟩, 6), (⟨"MergeLineModel", "changesOf", "(I)I"⟩, 6), (⟨"MergeLineModel", "isHeld", "(II)Z"⟩, 6), (⟨"MergeLineModel", "cut", "(I)V"⟩, 6), (⟨"MergeLineModel", "isInWork", "(I)Z"⟩, 6)]
theorem lw_r4 : ∀ q ∈ lw_privs_4, lw_okq q := List.forall_mem_cons.mpr ⟨lw_p48, List.forall_mem_cons.mpr ⟨lw_p49, List.forall_mem_cons.mpr ⟨lw_p50, List.forall_mem_cons.mpr ⟨lw_p51, List.forall_mem_cons.mpr ⟨lw_p52, fun _ h => absurd h List.not_mem_nil⟩⟩⟩⟩⟩
def lw_privs : List (MethodName × Nat) := lw_privs_1 ++ (lw_privs_2 ++ (lw_privs_3 ++ (lw_privs_4)))
def lw_tbl : List Cond := k2_sels lw_privs ++ tables_1
theorem lw_privs_ok : ∀ q ∈ lw_privs, lw_okq q := by
  show ∀ q ∈ lw_privs_1 ++ (lw_privs_2 ++ (lw_privs_3 ++ (lw_privs_4))), lw_okq q
  exact List.forall_mem_append.mpr ⟨lw_r1, List.forall_mem_append.mpr ⟨lw_r2, List.forall_mem_append.mpr ⟨lw_r3, lw_r4⟩⟩⟩
end
section
def RX0 : String := "MergeLine$Book"
def TX0 : u_T := fun k => match k with
  | 0 => ("MergeLine$Book", "marks", "[I", true)
  | 1 => ("MergeLine$Book", "lengths", "[I", true)
  | 2 => ("MergeLine$Book", "values", "[I", true)
  | 3 => ("MergeLine$Book", "latest", "I", false)
  | _ => ("MergeLine$Book", "made", "I", false)
def tyX0 : Nat → FieldType := fun k => match k with
  | 0 => .array .int
  | 1 => .array .int
  | 2 => .array .int
  | 3 => .int
  | _ => .int
abbrev wsX00 : List Cond := u_ws RX0 TX0 5
theorem nmX0 : ∀ a, a < 5 → ∀ b, b < 5 → a ≠ b → (TX0 a).2.1 ≠ (TX0 b).2.1 := by decide +kernel
theorem tyX0_ok : ∀ k, k < 5 → parseFieldDescriptor (TX0 k).2.2.1 = some (tyX0 k) := by decide +kernel
def RX1 : String := "MergeLine$Cells"
def TX1 : u_T := fun k => match k with
  | _ => ("MergeLine$Cells", "row", "[I", true)
def tyX1 : Nat → FieldType := fun k => match k with
  | _ => .array .int
abbrev wsX10 : List Cond := u_ws RX1 TX1 1
theorem nmX1 : ∀ a, a < 1 → ∀ b, b < 1 → a ≠ b → (TX1 a).2.1 ≠ (TX1 b).2.1 := by decide +kernel
theorem tyX1_ok : ∀ k, k < 1 → parseFieldDescriptor (TX1 k).2.2.1 = some (tyX1 k) := by decide +kernel
def RX2 : String := "MergeLine$Changes"
def TX2 : u_T := fun k => match k with
  | 0 => ("MergeLine$Changes", "kinds", "LMergeLine$Cells;", true)
  | 1 => ("MergeLine$Changes", "stands", "LMergeLine$Cells;", true)
  | 2 => ("MergeLine$Changes", "bases", "LMergeLine$Cells;", true)
  | 3 => ("MergeLine$Changes", "takenStates", "LMergeLine$Cells;", true)
  | 4 => ("MergeLine$Changes", "failures", "LMergeLine$Cells;", true)
  | 5 => ("MergeLine$Changes", "partners", "LMergeLine$Cells;", true)
  | 6 => ("MergeLine$Changes", "hands", "LMergeLine$Cells;", true)
  | 7 => ("MergeLine$Changes", "editCounts", "LMergeLine$Cells;", true)
  | 8 => ("MergeLine$Changes", "edits", "LMergeLine$Edits;", true)
  | _ => ("MergeLine$Changes", "made", "I", false)
def tyX2 : Nat → FieldType := fun k => match k with
  | 0 => .object "MergeLine$Cells"
  | 1 => .object "MergeLine$Cells"
  | 2 => .object "MergeLine$Cells"
  | 3 => .object "MergeLine$Cells"
  | 4 => .object "MergeLine$Cells"
  | 5 => .object "MergeLine$Cells"
  | 6 => .object "MergeLine$Cells"
  | 7 => .object "MergeLine$Cells"
  | 8 => .object "MergeLine$Edits"
  | _ => .int
abbrev wsX20 : List Cond := u_ws RX2 TX2 10
theorem nmX2 : ∀ a, a < 10 → ∀ b, b < 10 → a ≠ b → (TX2 a).2.1 ≠ (TX2 b).2.1 := by decide +kernel
theorem tyX2_ok : ∀ k, k < 10 → parseFieldDescriptor (TX2 k).2.2.1 = some (tyX2 k) := by decide +kernel
def RX3 : String := "MergeLine$Edits"
def TX3 : u_T := fun k => match k with
  | 0 => ("MergeLine$Edits", "files", "LMergeLine$Cells;", true)
  | 1 => ("MergeLine$Edits", "aheads", "LMergeLine$Cells;", true)
  | 2 => ("MergeLine$Edits", "behinds", "LMergeLine$Cells;", true)
  | 3 => ("MergeLine$Edits", "takes", "LMergeLine$Cells;", true)
  | 4 => ("MergeLine$Edits", "puts", "LMergeLine$Cells;", true)
  | 5 => ("MergeLine$Edits", "taken", "LMergeLine$Cells;", true)
  | _ => ("MergeLine$Edits", "put", "LMergeLine$Cells;", true)
def tyX3 : Nat → FieldType := fun k => match k with
  | 0 => .object "MergeLine$Cells"
  | 1 => .object "MergeLine$Cells"
  | 2 => .object "MergeLine$Cells"
  | 3 => .object "MergeLine$Cells"
  | 4 => .object "MergeLine$Cells"
  | 5 => .object "MergeLine$Cells"
  | _ => .object "MergeLine$Cells"
abbrev wsX30 : List Cond := u_ws RX3 TX3 7
theorem nmX3 : ∀ a, a < 7 → ∀ b, b < 7 → a ≠ b → (TX3 a).2.1 ≠ (TX3 b).2.1 := by decide +kernel
theorem tyX3_ok : ∀ k, k < 7 → parseFieldDescriptor (TX3 k).2.2.1 = some (tyX3 k) := by decide +kernel
def RX4 : String := "MergeLine$Hall"
def TX4 : u_T := fun k => match k with
  | 0 => ("MergeLine$Hall", "book", "LMergeLine$Book;", true)
  | 1 => ("MergeLine$Hall", "tests", "LMergeLine$Tests;", true)
  | 2 => ("MergeLine$Hall", "changes", "LMergeLine$Changes;", true)
  | 3 => ("MergeLine$Hall", "lane", "LMergeLine$Lane;", true)
  | 4 => ("MergeLine$Hall", "pile", "LMergeLine$Pile;", true)
  | 5 => ("MergeLine$Hall", "ledger", "LMergeLine$Ledger;", true)
  | _ => ("MergeLine$Hall", "limit", "I", false)
def tyX4 : Nat → FieldType := fun k => match k with
  | 0 => .object "MergeLine$Book"
  | 1 => .object "MergeLine$Tests"
  | 2 => .object "MergeLine$Changes"
  | 3 => .object "MergeLine$Lane"
  | 4 => .object "MergeLine$Pile"
  | 5 => .object "MergeLine$Ledger"
  | _ => .int
abbrev wsX40 : List Cond := u_ws RX4 TX4 7
theorem nmX4 : ∀ a, a < 7 → ∀ b, b < 7 → a ≠ b → (TX4 a).2.1 ≠ (TX4 b).2.1 := by decide +kernel
theorem tyX4_ok : ∀ k, k < 7 → parseFieldDescriptor (TX4 k).2.2.1 = some (tyX4 k) := by decide +kernel
def RX5 : String := "MergeLine$Lane"
def TX5 : u_T := fun k => match k with
  | 0 => ("MergeLine$Lane", "order", "LMergeLine$Cells;", true)
  | _ => ("MergeLine$Lane", "length", "I", false)
def tyX5 : Nat → FieldType := fun k => match k with
  | 0 => .object "MergeLine$Cells"
  | _ => .int
abbrev wsX50 : List Cond := u_ws RX5 TX5 2
theorem nmX5 : ∀ a, a < 2 → ∀ b, b < 2 → a ≠ b → (TX5 a).2.1 ≠ (TX5 b).2.1 := by decide +kernel
theorem tyX5_ok : ∀ k, k < 2 → parseFieldDescriptor (TX5 k).2.2.1 = some (tyX5 k) := by decide +kernel
def RX6 : String := "MergeLine$Ledger"
def TX6 : u_T := fun k => match k with
  | 0 => ("MergeLine$Ledger", "told", "LMergeLine$Cells;", true)
  | 1 => ("MergeLine$Ledger", "real", "LMergeLine$Cells;", true)
  | _ => ("MergeLine$Ledger", "runs", "I", false)
def tyX6 : Nat → FieldType := fun k => match k with
  | 0 => .object "MergeLine$Cells"
  | 1 => .object "MergeLine$Cells"
  | _ => .int
abbrev wsX60 : List Cond := u_ws RX6 TX6 3
theorem nmX6 : ∀ a, a < 3 → ∀ b, b < 3 → a ≠ b → (TX6 a).2.1 ≠ (TX6 b).2.1 := by decide +kernel
theorem tyX6_ok : ∀ k, k < 3 → parseFieldDescriptor (TX6 k).2.2.1 = some (tyX6 k) := by decide +kernel
def RX7 : String := "MergeLine$Pile"
def TX7 : u_T := fun k => match k with
  | 0 => ("MergeLine$Pile", "heads", "LMergeLine$Cells;", true)
  | 1 => ("MergeLine$Pile", "tails", "LMergeLine$Cells;", true)
  | 2 => ("MergeLine$Pile", "lengths", "LMergeLine$Cells;", true)
  | 3 => ("MergeLine$Pile", "dooms", "LMergeLine$Cells;", true)
  | 4 => ("MergeLine$Pile", "wholes", "LMergeLine$Cells;", true)
  | 5 => ("MergeLine$Pile", "failures", "LMergeLine$Cells;", true)
  | 6 => ("MergeLine$Pile", "units", "I", false)
  | _ => ("MergeLine$Pile", "rows", "I", false)
def tyX7 : Nat → FieldType := fun k => match k with
  | 0 => .object "MergeLine$Cells"
  | 1 => .object "MergeLine$Cells"
  | 2 => .object "MergeLine$Cells"
  | 3 => .object "MergeLine$Cells"
  | 4 => .object "MergeLine$Cells"
  | 5 => .object "MergeLine$Cells"
  | 6 => .int
  | _ => .int
abbrev wsX70 : List Cond := u_ws RX7 TX7 8
theorem nmX7 : ∀ a, a < 8 → ∀ b, b < 8 → a ≠ b → (TX7 a).2.1 ≠ (TX7 b).2.1 := by decide +kernel
theorem tyX7_ok : ∀ k, k < 8 → parseFieldDescriptor (TX7 k).2.2.1 = some (tyX7 k) := by decide +kernel
def RX8 : String := "MergeLine$Tests"
def TX8 : u_T := fun k => match k with
  | 0 => ("MergeLine$Tests", "kinds", "LMergeLine$Cells;", true)
  | 1 => ("MergeLine$Tests", "firsts", "LMergeLine$Cells;", true)
  | 2 => ("MergeLine$Tests", "seconds", "LMergeLine$Cells;", true)
  | 3 => ("MergeLine$Tests", "thirds", "LMergeLine$Cells;", true)
  | 4 => ("MergeLine$Tests", "chances", "LMergeLine$Cells;", true)
  | 5 => ("MergeLine$Tests", "made", "I", false)
  | 6 => ("MergeLine$Tests", "most", "I", false)
  | 7 => ("MergeLine$Tests", "needed", "I", false)
  | 8 => ("MergeLine$Tests", "done", "I", false)
  | _ => ("MergeLine$Tests", "z", "I", false)
def tyX8 : Nat → FieldType := fun k => match k with
  | 0 => .object "MergeLine$Cells"
  | 1 => .object "MergeLine$Cells"
  | 2 => .object "MergeLine$Cells"
  | 3 => .object "MergeLine$Cells"
  | 4 => .object "MergeLine$Cells"
  | 5 => .int
  | 6 => .int
  | 7 => .int
  | 8 => .int
  | _ => .int
abbrev wsX80 : List Cond := u_ws RX8 TX8 10
theorem nmX8 : ∀ a, a < 10 → ∀ b, b < 10 → a ≠ b → (TX8 a).2.1 ≠ (TX8 b).2.1 := by decide +kernel
theorem tyX8_ok : ∀ k, k < 10 → parseFieldDescriptor (TX8 k).2.2.1 = some (tyX8 k) := by decide +kernel
def RX9 : String := "MergeLine"
def TX9 : u_T := fun k => match k with
  | 0 => ("MergeLine", "now", "LMergeLine$Hall;", true)
  | 1 => ("MergeLine", "old", "LMergeLine$Hall;", true)
  | _ => ("MergeLine", "isKept", "Z", false)
def tyX9 : Nat → FieldType := fun k => match k with
  | 0 => .object "MergeLine$Hall"
  | 1 => .object "MergeLine$Hall"
  | _ => .boolean
abbrev wsX90 : List Cond := u_ws RX9 TX9 3
theorem nmX9 : ∀ a, a < 3 → ∀ b, b < 3 → a ≠ b → (TX9 a).2.1 ≠ (TX9 b).2.1 := by decide +kernel
theorem tyX9_ok : ∀ k, k < 3 → parseFieldDescriptor (TX9 k).2.2.1 = some (tyX9 k) := by decide +kernel
def RX10 : String := "MergeLineModel"
def TX10 : u_T := fun k => match k with
  | 0 => ("MergeLineModel", "m", "[I", true)
  | 1 => ("MergeLineModel", "kept", "[I", true)
  | 2 => ("MergeLineModel", "isKept", "Z", false)
  | 3 => ("MergeLineModel", "thrown", "I", false)
  | 4 => ("MergeLineModel", "batch", "[I", true)
  | _ => ("MergeLineModel", "row", "[I", true)
def tyX10 : Nat → FieldType := fun k => match k with
  | 0 => .array .int
  | 1 => .array .int
  | 2 => .boolean
  | 3 => .int
  | 4 => .array .int
  | _ => .array .int
abbrev wsX100 : List Cond := u_ws RX10 TX10 6
theorem nmX10 : ∀ a, a < 6 → ∀ b, b < 6 → a ≠ b → (TX10 a).2.1 ≠ (TX10 b).2.1 := by decide +kernel
theorem tyX10_ok : ∀ k, k < 6 → parseFieldDescriptor (TX10 k).2.2.1 = some (tyX10 k) := by decide +kernel
def RL : String := "MergeLineLaw"
abbrev cX0_init : ByteArray := prog_2_method_1_code
abbrev cX0_latest : ByteArray := prog_2_method_2_code
abbrev cX0_marksMade : ByteArray := prog_2_method_3_code
abbrev cX0_newLine : ByteArray := prog_2_method_4_code
abbrev cX0_append : ByteArray := prog_2_method_5_code
abbrev cX0_lengthOf : ByteArray := prog_2_method_6_code
abbrev cX0_linesIn : ByteArray := prog_2_method_7_code
abbrev cX0_markAt : ByteArray := prog_2_method_8_code
abbrev cX0_valueOf : ByteArray := prog_2_method_9_code
abbrev cX0_nameGivenBy : ByteArray := prog_2_method_10_code
abbrev cX0_nameAskedBy : ByteArray := prog_2_method_11_code
abbrev cX0_linesGiving : ByteArray := prog_2_method_12_code
abbrev cX0_setMark : ByteArray := prog_2_method_13_code
abbrev cX0_makeRoom : ByteArray := prog_2_method_14_code
abbrev cX0_copySlot : ByteArray := prog_2_method_15_code
abbrev cX0_takeTrial : ByteArray := prog_2_method_16_code
abbrev cX0_takeOver : ByteArray := prog_2_method_17_code
abbrev cX1_init : ByteArray := prog_3_method_1_code
abbrev cX1_get : ByteArray := prog_3_method_2_code
abbrev cX1_set : ByteArray := prog_3_method_3_code
abbrev cX1_move : ByteArray := prog_3_method_4_code
abbrev cX1_takeOver : ByteArray := prog_3_method_5_code
abbrev cX2_init : ByteArray := prog_4_method_1_code
abbrev cX2_made : ByteArray := prog_4_method_2_code
abbrev cX2_begin : ByteArray := prog_4_method_3_code
abbrev cX2_finish : ByteArray := prog_4_method_4_code
abbrev cX2_kindOf : ByteArray := prog_4_method_5_code
abbrev cX2_standOf : ByteArray := prog_4_method_6_code
abbrev cX2_setStand : ByteArray := prog_4_method_7_code
abbrev cX2_takenWith : ByteArray := prog_4_method_8_code
abbrev cX2_setTakenWith : ByteArray := prog_4_method_9_code
abbrev cX2_failedBy : ByteArray := prog_4_method_10_code
abbrev cX2_setFailedBy : ByteArray := prog_4_method_11_code
abbrev cX2_editsOf : ByteArray := prog_4_method_12_code
abbrev cX2_partnerOf : ByteArray := prog_4_method_13_code
abbrev cX2_canPair : ByteArray := prog_4_method_14_code
abbrev cX2_join : ByteArray := prog_4_method_15_code
abbrev cX2_swapHand : ByteArray := prog_4_method_16_code
abbrev cX2_isOpen : ByteArray := prog_4_method_17_code
abbrev cX2_hasFile : ByteArray := prog_4_method_18_code
abbrev cX2_addEdit : ByteArray := prog_4_method_19_code
abbrev cX2_takeLines : ByteArray := prog_4_method_20_code
abbrev cX2_putLines : ByteArray := prog_4_method_21_code
abbrev cX2_turnEdits : ByteArray := prog_4_method_22_code
abbrev cX2_isFree : ByteArray := prog_4_method_23_code
abbrev cX2_isUnitOf : ByteArray := prog_4_method_24_code
abbrev cX2_fitsOn : ByteArray := prog_4_method_25_code
abbrev cX2_comesOn : ByteArray := prog_4_method_26_code
abbrev cX2_meets : ByteArray := prog_4_method_27_code
abbrev cX2_takeOver : ByteArray := prog_4_method_28_code
abbrev cX3_init : ByteArray := prog_5_method_1_code
abbrev cX3_begin : ByteArray := prog_5_method_2_code
abbrev cX3_fileOf : ByteArray := prog_5_method_3_code
abbrev cX3_takeLines : ByteArray := prog_5_method_4_code
abbrev cX3_putLines : ByteArray := prog_5_method_5_code
abbrev cX3_turn : ByteArray := prog_5_method_6_code
abbrev cX3_placeOf : ByteArray := prog_5_method_7_code
abbrev cX3_doAt : ByteArray := prog_5_method_8_code
abbrev cX3_gives : ByteArray := prog_5_method_9_code
abbrev cX3_isGiven : ByteArray := prog_5_method_10_code
abbrev cX3_takeOver : ByteArray := prog_5_method_11_code
abbrev cX4_init : ByteArray := prog_6_method_1_code
abbrev cX4_swapLimit : ByteArray := prog_6_method_2_code
abbrev cX4_standing : ByteArray := prog_6_method_3_code
abbrev cX4_takeOut : ByteArray := prog_6_method_4_code
abbrev cX4_isReady : ByteArray := prog_6_method_5_code
abbrev cX4_isReadyAt : ByteArray := prog_6_method_6_code
abbrev cX4_findsWork : ByteArray := prog_6_method_7_code
abbrev cX4_findLone : ByteArray := prog_6_method_8_code
abbrev cX4_gatherLone : ByteArray := prog_6_method_9_code
abbrev cX4_gather : ByteArray := prog_6_method_10_code
abbrev cX4_unitComes : ByteArray := prog_6_method_11_code
abbrev cX4_sendBack : ByteArray := prog_6_method_12_code
abbrev cX4_trimTop : ByteArray := prog_6_method_13_code
abbrev cX4_isTopToRun : ByteArray := prog_6_method_14_code
abbrev cX4_runTop : ByteArray := prog_6_method_15_code
abbrev cX4_isTouchedByTop : ByteArray := prog_6_method_16_code
abbrev cX4_takeTop : ByteArray := prog_6_method_17_code
abbrev cX4_settleTop : ByteArray := prog_6_method_18_code
abbrev cX4_failTop : ByteArray := prog_6_method_19_code
abbrev cX4_takeOver : ByteArray := prog_6_method_20_code
abbrev cX5_init : ByteArray := prog_7_method_1_code
abbrev cX5_length : ByteArray := prog_7_method_2_code
abbrev cX5_add : ByteArray := prog_7_method_3_code
abbrev cX5_changeAt : ByteArray := prog_7_method_4_code
abbrev cX5_placeOf : ByteArray := prog_7_method_5_code
abbrev cX5_drop : ByteArray := prog_7_method_6_code
abbrev cX5_takeOver : ByteArray := prog_7_method_7_code
abbrev cX6_init : ByteArray := prog_8_method_1_code
abbrev cX6_runs : ByteArray := prog_8_method_2_code
abbrev cX6_write : ByteArray := prog_8_method_3_code
abbrev cX6_setFact : ByteArray := prog_8_method_4_code
abbrev cX6_sumOf : ByteArray := prog_8_method_5_code
abbrev cX6_tell : ByteArray := prog_8_method_6_code
abbrev cX6_twist : ByteArray := prog_8_method_7_code
abbrev cX6_firstWrong : ByteArray := prog_8_method_8_code
abbrev cX6_takeOver : ByteArray := prog_8_method_9_code
abbrev cX7_init : ByteArray := prog_9_method_1_code
abbrev cX7_rows : ByteArray := prog_9_method_2_code
abbrev cX7_units : ByteArray := prog_9_method_3_code
abbrev cX7_headAt : ByteArray := prog_9_method_4_code
abbrev cX7_topLength : ByteArray := prog_9_method_5_code
abbrev cX7_topFailure : ByteArray := prog_9_method_6_code
abbrev cX7_isTopDoomed : ByteArray := prog_9_method_7_code
abbrev cX7_changeCount : ByteArray := prog_9_method_8_code
abbrev cX7_topChangeCount : ByteArray := prog_9_method_9_code
abbrev cX7_changesAhead : ByteArray := prog_9_method_10_code
abbrev cX7_changeAt : ByteArray := prog_9_method_11_code
abbrev cX7_holdsChange : ByteArray := prog_9_method_12_code
abbrev cX7_add : ByteArray := prog_9_method_13_code
abbrev cX7_push : ByteArray := prog_9_method_14_code
abbrev cX7_dropUnit : ByteArray := prog_9_method_15_code
abbrev cX7_dropUnits : ByteArray := prog_9_method_16_code
abbrev cX7_dropTop : ByteArray := prog_9_method_17_code
abbrev cX7_takeTop : ByteArray := prog_9_method_18_code
abbrev cX7_doomTop : ByteArray := prog_9_method_19_code
abbrev cX7_halveTop : ByteArray := prog_9_method_20_code
abbrev cX7_takeOver : ByteArray := prog_9_method_21_code
abbrev cX8_init : ByteArray := prog_10_method_1_code
abbrev cX8_made : ByteArray := prog_10_method_2_code
abbrev cX8_triesDone : ByteArray := prog_10_method_3_code
abbrev cX8_kindOf : ByteArray := prog_10_method_4_code
abbrev cX8_subjectOf : ByteArray := prog_10_method_5_code
abbrev cX8_add : ByteArray := prog_10_method_6_code
abbrev cX8_setOdds : ByteArray := prog_10_method_7_code
abbrev cX8_setTries : ByteArray := prog_10_method_8_code
abbrev cX8_passes : ByteArray := prog_10_method_9_code
abbrev cX8_standsOn : ByteArray := prog_10_method_10_code
abbrev cX8_sumOf : ByteArray := prog_10_method_11_code
abbrev cX8_isAllKnown : ByteArray := prog_10_method_12_code
abbrev cX8_isRising : ByteArray := prog_10_method_13_code
abbrev cX8_takeOver : ByteArray := prog_10_method_14_code
abbrev cX9_init : ByteArray := prog_1_method_1_code
abbrev cX9_line : ByteArray := prog_1_method_2_code
abbrev cX9_test : ByteArray := prog_1_method_3_code
abbrev cX9_odds : ByteArray := prog_1_method_4_code
abbrev cX9_tries : ByteArray := prog_1_method_5_code
abbrev cX9_holds : ByteArray := prog_1_method_6_code
abbrev cX9_change : ByteArray := prog_1_method_7_code
abbrev cX9_edit : ByteArray := prog_1_method_8_code
abbrev cX9_revert : ByteArray := prog_1_method_9_code
abbrev cX9_pair : ByteArray := prog_1_method_10_code
abbrev cX9_fits : ByteArray := prog_1_method_11_code
abbrev cX9_touches : ByteArray := prog_1_method_12_code
abbrev cX9_queue : ByteArray := prog_1_method_13_code
abbrev cX9_leave : ByteArray := prog_1_method_14_code
abbrev cX9_hand : ByteArray := prog_1_method_15_code
abbrev cX9_size : ByteArray := prog_1_method_16_code
abbrev cX9_go : ByteArray := prog_1_method_17_code
abbrev cX9_about : ByteArray := prog_1_method_18_code
abbrev cX9_inLine : ByteArray := prog_1_method_19_code
abbrev cX9_inWork : ByteArray := prog_1_method_20_code
abbrev cX9_at : ByteArray := prog_1_method_21_code
abbrev cX9_log : ByteArray := prog_1_method_22_code
abbrev cX9_alter : ByteArray := prog_1_method_23_code
abbrev cX9_check : ByteArray := prog_1_method_24_code
abbrev cX9_keep : ByteArray := prog_1_method_25_code
abbrev cX9_goBack : ByteArray := prog_1_method_26_code
abbrev cX9_count : ByteArray := prog_1_method_27_code
abbrev cX9_isIn : ByteArray := prog_1_method_28_code
abbrev cX9_asNumber : ByteArray := prog_1_method_29_code
abbrev cX9_isChange : ByteArray := prog_1_method_30_code
abbrev cX9_isTakenState : ByteArray := prog_1_method_31_code
abbrev cX9_isTestAsTold : ByteArray := prog_1_method_32_code
abbrev cX10_in : ByteArray := prog_12_method_2_code
abbrev cX10_init : ByteArray := prog_12_method_3_code
abbrev cX10_lines : ByteArray := prog_12_method_4_code
abbrev cX10_cell : ByteArray := prog_12_method_5_code
abbrev cX10_copyState : ByteArray := prog_12_method_6_code
abbrev cX10_isFile : ByteArray := prog_12_method_7_code
abbrev cX10_line : ByteArray := prog_12_method_8_code
abbrev cX10_at : ByteArray := prog_12_method_9_code
abbrev cX10_test : ByteArray := prog_12_method_10_code
abbrev cX10_isTest : ByteArray := prog_12_method_11_code
abbrev cX10_odds : ByteArray := prog_12_method_12_code
abbrev cX10_tries : ByteArray := prog_12_method_13_code
abbrev cX10_name : ByteArray := prog_12_method_14_code
abbrev cX10_givers : ByteArray := prog_12_method_15_code
abbrev cX10_isSo : ByteArray := prog_12_method_16_code
abbrev cX10_holds : ByteArray := prog_12_method_17_code
abbrev cX10_isHeld : ByteArray := prog_12_method_18_code
abbrev cX10_isChange : ByteArray := prog_12_method_19_code
abbrev cX10_newChange : ByteArray := prog_12_method_20_code
abbrev cX10_change : ByteArray := prog_12_method_21_code
abbrev cX10_hasFile : ByteArray := prog_12_method_22_code
abbrev cX10_markAt : ByteArray := prog_12_method_23_code
abbrev cX10_edit : ByteArray := prog_12_method_24_code
abbrev cX10_fitsAt : ByteArray := prog_12_method_25_code
abbrev cX10_fitsIn : ByteArray := prog_12_method_26_code
abbrev cX10_apply : ByteArray := prog_12_method_27_code
abbrev cX10_moveLine : ByteArray := prog_12_method_28_code
abbrev cX10_comes : ByteArray := prog_12_method_29_code
abbrev cX10_revert : ByteArray := prog_12_method_30_code
abbrev cX10_pair : ByteArray := prog_12_method_31_code
abbrev cX10_fits : ByteArray := prog_12_method_32_code
abbrev cX10_gives : ByteArray := prog_12_method_33_code
abbrev cX10_isTouched : ByteArray := prog_12_method_34_code
abbrev cX10_touches : ByteArray := prog_12_method_35_code
abbrev cX10_placeOf : ByteArray := prog_12_method_36_code
abbrev cX10_queue : ByteArray := prog_12_method_37_code
abbrev cX10_out : ByteArray := prog_12_method_38_code
abbrev cX10_leave : ByteArray := prog_12_method_39_code
abbrev cX10_hand : ByteArray := prog_12_method_40_code
abbrev cX10_size : ByteArray := prog_12_method_41_code
abbrev cX10_isFree : ByteArray := prog_12_method_42_code
abbrev cX10_isReady : ByteArray := prog_12_method_43_code
abbrev cX10_isFirst : ByteArray := prog_12_method_44_code
abbrev cX10_hasKind : ByteArray := prog_12_method_45_code
abbrev cX10_unitComes : ByteArray := prog_12_method_46_code
abbrev cX10_fitsAlone : ByteArray := prog_12_method_47_code
abbrev cX10_unitOut : ByteArray := prog_12_method_48_code
abbrev cX10_firstReady : ByteArray := prog_12_method_49_code
abbrev cX10_newRow : ByteArray := prog_12_method_50_code
abbrev cX10_addUnit : ByteArray := prog_12_method_51_code
abbrev cX10_makeAlone : ByteArray := prog_12_method_52_code
abbrev cX10_makeMany : ByteArray := prog_12_method_53_code
abbrev cX10_makeBatch : ByteArray := prog_12_method_54_code
abbrev cX10_lookThrough : ByteArray := prog_12_method_55_code
abbrev cX10_cut : ByteArray := prog_12_method_56_code
abbrev cX10_changesOf : ByteArray := prog_12_method_57_code
abbrev cX10_run : ByteArray := prog_12_method_58_code
abbrev cX10_go : ByteArray := prog_12_method_59_code
abbrev cX10_isInWork : ByteArray := prog_12_method_60_code
abbrev cX10_about : ByteArray := prog_12_method_61_code
abbrev cX10_inLine : ByteArray := prog_12_method_62_code
abbrev cX10_inWork : ByteArray := prog_12_method_63_code
abbrev cX10_log : ByteArray := prog_12_method_64_code
abbrev cX10_alter : ByteArray := prog_12_method_65_code
abbrev cX10_check : ByteArray := prog_12_method_66_code
abbrev cX10_keep : ByteArray := prog_12_method_67_code
abbrev cX10_goBack : ByteArray := prog_12_method_68_code
abbrev cX10_count : ByteArray := prog_12_method_69_code
abbrev cL_cell : ByteArray := method_2_code
abbrev cL_law : ByteArray := code
def yX0_init : MethodName := ⟨RX0, "<init>", "()V"⟩
def yX0_latest : MethodName := ⟨RX0, "latest", "()I"⟩
def yX0_marksMade : MethodName := ⟨RX0, "marksMade", "()I"⟩
def yX0_newLine : MethodName := ⟨RX0, "newLine", "(I)I"⟩
def yX0_append : MethodName := ⟨RX0, "append", "(II)V"⟩
def yX0_lengthOf : MethodName := ⟨RX0, "lengthOf", "(II)I"⟩
def yX0_linesIn : MethodName := ⟨RX0, "linesIn", "(I)I"⟩
def yX0_markAt : MethodName := ⟨RX0, "markAt", "(III)I"⟩
def yX0_valueOf : MethodName := ⟨RX0, "valueOf", "(I)I"⟩
def yX0_nameGivenBy : MethodName := ⟨RX0, "nameGivenBy", "(I)I"⟩
def yX0_nameAskedBy : MethodName := ⟨RX0, "nameAskedBy", "(I)I"⟩
def yX0_linesGiving : MethodName := ⟨RX0, "linesGiving", "(II)I"⟩
def yX0_setMark : MethodName := ⟨RX0, "setMark", "(IIII)V"⟩
def yX0_makeRoom : MethodName := ⟨RX0, "makeRoom", "(IIIII)V"⟩
def yX0_copySlot : MethodName := ⟨RX0, "copySlot", "(II)V"⟩
def yX0_takeTrial : MethodName := ⟨RX0, "takeTrial", "()V"⟩
def yX0_takeOver : MethodName := ⟨RX0, "takeOver", "(LMergeLine$Book;)V"⟩
def yX1_init : MethodName := ⟨RX1, "<init>", "(I)V"⟩
def yX1_get : MethodName := ⟨RX1, "get", "(I)I"⟩
def yX1_set : MethodName := ⟨RX1, "set", "(II)V"⟩
def yX1_move : MethodName := ⟨RX1, "move", "(III)V"⟩
def yX1_takeOver : MethodName := ⟨RX1, "takeOver", "(LMergeLine$Cells;)V"⟩
def yX2_init : MethodName := ⟨RX2, "<init>", "()V"⟩
def yX2_made : MethodName := ⟨RX2, "made", "()I"⟩
def yX2_begin : MethodName := ⟨RX2, "begin", "(II)I"⟩
def yX2_finish : MethodName := ⟨RX2, "finish", "()I"⟩
def yX2_kindOf : MethodName := ⟨RX2, "kindOf", "(I)I"⟩
def yX2_standOf : MethodName := ⟨RX2, "standOf", "(I)I"⟩
def yX2_setStand : MethodName := ⟨RX2, "setStand", "(II)V"⟩
def yX2_takenWith : MethodName := ⟨RX2, "takenWith", "(I)I"⟩
def yX2_setTakenWith : MethodName := ⟨RX2, "setTakenWith", "(II)V"⟩
def yX2_failedBy : MethodName := ⟨RX2, "failedBy", "(I)I"⟩
def yX2_setFailedBy : MethodName := ⟨RX2, "setFailedBy", "(II)V"⟩
def yX2_editsOf : MethodName := ⟨RX2, "editsOf", "(I)I"⟩
def yX2_partnerOf : MethodName := ⟨RX2, "partnerOf", "(I)I"⟩
def yX2_canPair : MethodName := ⟨RX2, "canPair", "(I)Z"⟩
def yX2_join : MethodName := ⟨RX2, "join", "(II)V"⟩
def yX2_swapHand : MethodName := ⟨RX2, "swapHand", "(II)I"⟩
def yX2_isOpen : MethodName := ⟨RX2, "isOpen", "(II)Z"⟩
def yX2_hasFile : MethodName := ⟨RX2, "hasFile", "(II)Z"⟩
def yX2_addEdit : MethodName := ⟨RX2, "addEdit", "(IIII)I"⟩
def yX2_takeLines : MethodName := ⟨RX2, "takeLines", "(ILMergeLine$Book;I)V"⟩
def yX2_putLines : MethodName := ⟨RX2, "putLines", "(ILMergeLine$Book;I)V"⟩
def yX2_turnEdits : MethodName := ⟨RX2, "turnEdits", "(II)V"⟩
def yX2_isFree : MethodName := ⟨RX2, "isFree", "(I)Z"⟩
def yX2_isUnitOf : MethodName := ⟨RX2, "isUnitOf", "(II)Z"⟩
def yX2_fitsOn : MethodName := ⟨RX2, "fitsOn", "(ILMergeLine$Book;I)Z"⟩
def yX2_comesOn : MethodName := ⟨RX2, "comesOn", "(ILMergeLine$Book;I)Z"⟩
def yX2_meets : MethodName := ⟨RX2, "meets", "(IIILMergeLine$Book;)Z"⟩
def yX2_takeOver : MethodName := ⟨RX2, "takeOver", "(LMergeLine$Changes;)V"⟩
def yX3_init : MethodName := ⟨RX3, "<init>", "()V"⟩
def yX3_begin : MethodName := ⟨RX3, "begin", "(IIII)V"⟩
def yX3_fileOf : MethodName := ⟨RX3, "fileOf", "(I)I"⟩
def yX3_takeLines : MethodName := ⟨RX3, "takeLines", "(ILMergeLine$Book;I)V"⟩
def yX3_putLines : MethodName := ⟨RX3, "putLines", "(ILMergeLine$Book;I)V"⟩
def yX3_turn : MethodName := ⟨RX3, "turn", "(II)V"⟩
def yX3_placeOf : MethodName := ⟨RX3, "placeOf", "(ILMergeLine$Book;I)I"⟩
def yX3_doAt : MethodName := ⟨RX3, "doAt", "(ILMergeLine$Book;II)V"⟩
def yX3_gives : MethodName := ⟨RX3, "gives", "(IILMergeLine$Book;)Z"⟩
def yX3_isGiven : MethodName := ⟨RX3, "isGiven", "(LMergeLine$Cells;IIILMergeLine$Book;)Z"⟩
def yX3_takeOver : MethodName := ⟨RX3, "takeOver", "(LMergeLine$Edits;)V"⟩
def yX4_init : MethodName := ⟨RX4, "<init>", "(I)V"⟩
def yX4_swapLimit : MethodName := ⟨RX4, "swapLimit", "(I)I"⟩
def yX4_standing : MethodName := ⟨RX4, "standing", "(I)I"⟩
def yX4_takeOut : MethodName := ⟨RX4, "takeOut", "(II)V"⟩
def yX4_isReady : MethodName := ⟨RX4, "isReady", "(I)Z"⟩
def yX4_isReadyAt : MethodName := ⟨RX4, "isReadyAt", "(I)Z"⟩
def yX4_findsWork : MethodName := ⟨RX4, "findsWork", "()Z"⟩
def yX4_findLone : MethodName := ⟨RX4, "findLone", "()I"⟩
def yX4_gatherLone : MethodName := ⟨RX4, "gatherLone", "(I)V"⟩
def yX4_gather : MethodName := ⟨RX4, "gather", "()V"⟩
def yX4_unitComes : MethodName := ⟨RX4, "unitComes", "(III)Z"⟩
def yX4_sendBack : MethodName := ⟨RX4, "sendBack", "(II)V"⟩
def yX4_trimTop : MethodName := ⟨RX4, "trimTop", "()V"⟩
def yX4_isTopToRun : MethodName := ⟨RX4, "isTopToRun", "()Z"⟩
def yX4_runTop : MethodName := ⟨RX4, "runTop", "()V"⟩
def yX4_isTouchedByTop : MethodName := ⟨RX4, "isTouchedByTop", "(I)Z"⟩
def yX4_takeTop : MethodName := ⟨RX4, "takeTop", "()V"⟩
def yX4_settleTop : MethodName := ⟨RX4, "settleTop", "()V"⟩
def yX4_failTop : MethodName := ⟨RX4, "failTop", "()V"⟩
def yX4_takeOver : MethodName := ⟨RX4, "takeOver", "(LMergeLine$Hall;)V"⟩
def yX5_init : MethodName := ⟨RX5, "<init>", "()V"⟩
def yX5_length : MethodName := ⟨RX5, "length", "()I"⟩
def yX5_add : MethodName := ⟨RX5, "add", "(I)I"⟩
def yX5_changeAt : MethodName := ⟨RX5, "changeAt", "(I)I"⟩
def yX5_placeOf : MethodName := ⟨RX5, "placeOf", "(I)I"⟩
def yX5_drop : MethodName := ⟨RX5, "drop", "(I)V"⟩
def yX5_takeOver : MethodName := ⟨RX5, "takeOver", "(LMergeLine$Lane;)V"⟩
def yX6_init : MethodName := ⟨RX6, "<init>", "()V"⟩
def yX6_runs : MethodName := ⟨RX6, "runs", "()I"⟩
def yX6_write : MethodName := ⟨RX6, "write", "(ILMergeLine$Pile;I)V"⟩
def yX6_setFact : MethodName := ⟨RX6, "setFact", "(II)V"⟩
def yX6_sumOf : MethodName := ⟨RX6, "sumOf", "(LMergeLine$Pile;I)I"⟩
def yX6_tell : MethodName := ⟨RX6, "tell", "(II)I"⟩
def yX6_twist : MethodName := ⟨RX6, "twist", "(III)I"⟩
def yX6_firstWrong : MethodName := ⟨RX6, "firstWrong", "()I"⟩
def yX6_takeOver : MethodName := ⟨RX6, "takeOver", "(LMergeLine$Ledger;)V"⟩
def yX7_init : MethodName := ⟨RX7, "<init>", "()V"⟩
def yX7_rows : MethodName := ⟨RX7, "rows", "()I"⟩
def yX7_units : MethodName := ⟨RX7, "units", "()I"⟩
def yX7_headAt : MethodName := ⟨RX7, "headAt", "(I)I"⟩
def yX7_topLength : MethodName := ⟨RX7, "topLength", "()I"⟩
def yX7_topFailure : MethodName := ⟨RX7, "topFailure", "()I"⟩
def yX7_isTopDoomed : MethodName := ⟨RX7, "isTopDoomed", "()Z"⟩
def yX7_changeCount : MethodName := ⟨RX7, "changeCount", "()I"⟩
def yX7_topChangeCount : MethodName := ⟨RX7, "topChangeCount", "()I"⟩
def yX7_changesAhead : MethodName := ⟨RX7, "changesAhead", "(I)I"⟩
def yX7_changeAt : MethodName := ⟨RX7, "changeAt", "(I)I"⟩
def yX7_holdsChange : MethodName := ⟨RX7, "holdsChange", "(I)Z"⟩
def yX7_add : MethodName := ⟨RX7, "add", "(II)V"⟩
def yX7_push : MethodName := ⟨RX7, "push", "(III)V"⟩
def yX7_dropUnit : MethodName := ⟨RX7, "dropUnit", "(I)V"⟩
def yX7_dropUnits : MethodName := ⟨RX7, "dropUnits", "(II)V"⟩
def yX7_dropTop : MethodName := ⟨RX7, "dropTop", "()V"⟩
def yX7_takeTop : MethodName := ⟨RX7, "takeTop", "()V"⟩
def yX7_doomTop : MethodName := ⟨RX7, "doomTop", "(I)V"⟩
def yX7_halveTop : MethodName := ⟨RX7, "halveTop", "()V"⟩
def yX7_takeOver : MethodName := ⟨RX7, "takeOver", "(LMergeLine$Pile;)V"⟩
def yX8_init : MethodName := ⟨RX8, "<init>", "(I)V"⟩
def yX8_made : MethodName := ⟨RX8, "made", "()I"⟩
def yX8_triesDone : MethodName := ⟨RX8, "triesDone", "()I"⟩
def yX8_kindOf : MethodName := ⟨RX8, "kindOf", "(I)I"⟩
def yX8_subjectOf : MethodName := ⟨RX8, "subjectOf", "(I)I"⟩
def yX8_add : MethodName := ⟨RX8, "add", "(IIII)I"⟩
def yX8_setOdds : MethodName := ⟨RX8, "setOdds", "(II)V"⟩
def yX8_setTries : MethodName := ⟨RX8, "setTries", "(II)V"⟩
def yX8_passes : MethodName := ⟨RX8, "passes", "(ILMergeLine$Book;I)Z"⟩
def yX8_standsOn : MethodName := ⟨RX8, "standsOn", "(ILMergeLine$Book;I)Z"⟩
def yX8_sumOf : MethodName := ⟨RX8, "sumOf", "(LMergeLine$Book;II)I"⟩
def yX8_isAllKnown : MethodName := ⟨RX8, "isAllKnown", "(LMergeLine$Book;II)Z"⟩
def yX8_isRising : MethodName := ⟨RX8, "isRising", "(LMergeLine$Book;II)Z"⟩
def yX8_takeOver : MethodName := ⟨RX8, "takeOver", "(LMergeLine$Tests;)V"⟩
def yX9_init : MethodName := ⟨RX9, "<init>", "(I)V"⟩
def yX9_line : MethodName := ⟨RX9, "line", "(II)I"⟩
def yX9_test : MethodName := ⟨RX9, "test", "(IIII)I"⟩
def yX9_odds : MethodName := ⟨RX9, "odds", "(II)I"⟩
def yX9_tries : MethodName := ⟨RX9, "tries", "(II)I"⟩
def yX9_holds : MethodName := ⟨RX9, "holds", "(II)I"⟩
def yX9_change : MethodName := ⟨RX9, "change", "(I)I"⟩
def yX9_edit : MethodName := ⟨RX9, "edit", "(IIIIII)I"⟩
def yX9_revert : MethodName := ⟨RX9, "revert", "(I)I"⟩
def yX9_pair : MethodName := ⟨RX9, "pair", "(II)I"⟩
def yX9_fits : MethodName := ⟨RX9, "fits", "(I)I"⟩
def yX9_touches : MethodName := ⟨RX9, "touches", "(II)I"⟩
def yX9_queue : MethodName := ⟨RX9, "queue", "(I)I"⟩
def yX9_leave : MethodName := ⟨RX9, "leave", "(I)I"⟩
def yX9_hand : MethodName := ⟨RX9, "hand", "(IZ)I"⟩
def yX9_size : MethodName := ⟨RX9, "size", "(I)I"⟩
def yX9_go : MethodName := ⟨RX9, "go", "(I)I"⟩
def yX9_about : MethodName := ⟨RX9, "about", "(II)I"⟩
def yX9_inLine : MethodName := ⟨RX9, "inLine", "(I)I"⟩
def yX9_inWork : MethodName := ⟨RX9, "inWork", "(I)I"⟩
def yX9_at : MethodName := ⟨RX9, "at", "(IIII)I"⟩
def yX9_log : MethodName := ⟨RX9, "log", "(II)I"⟩
def yX9_alter : MethodName := ⟨RX9, "alter", "(III)I"⟩
def yX9_check : MethodName := ⟨RX9, "check", "()I"⟩
def yX9_keep : MethodName := ⟨RX9, "keep", "()I"⟩
def yX9_goBack : MethodName := ⟨RX9, "goBack", "()I"⟩
def yX9_count : MethodName := ⟨RX9, "count", "(I)I"⟩
def yX9_isIn : MethodName := ⟨RX9, "isIn", "(II)Z"⟩
def yX9_asNumber : MethodName := ⟨RX9, "asNumber", "(Z)I"⟩
def yX9_isChange : MethodName := ⟨RX9, "isChange", "(I)Z"⟩
def yX9_isTakenState : MethodName := ⟨RX9, "isTakenState", "(I)Z"⟩
def yX9_isTestAsTold : MethodName := ⟨RX9, "isTestAsTold", "(IIII)Z"⟩
def yX10_in : MethodName := ⟨RX10, "in", "(JJJ)Z"⟩
def yX10_init : MethodName := ⟨RX10, "<init>", "(I)V"⟩
def yX10_lines : MethodName := ⟨RX10, "lines", "(II)I"⟩
def yX10_cell : MethodName := ⟨RX10, "cell", "(III)I"⟩
def yX10_copyState : MethodName := ⟨RX10, "copyState", "(II)V"⟩
def yX10_isFile : MethodName := ⟨RX10, "isFile", "(I)Z"⟩
def yX10_line : MethodName := ⟨RX10, "line", "(II)I"⟩
def yX10_at : MethodName := ⟨RX10, "at", "(IIII)I"⟩
def yX10_test : MethodName := ⟨RX10, "test", "(IIII)I"⟩
def yX10_isTest : MethodName := ⟨RX10, "isTest", "(I)Z"⟩
def yX10_odds : MethodName := ⟨RX10, "odds", "(II)I"⟩
def yX10_tries : MethodName := ⟨RX10, "tries", "(II)I"⟩
def yX10_name : MethodName := ⟨RX10, "name", "(II)I"⟩
def yX10_givers : MethodName := ⟨RX10, "givers", "(II)I"⟩
def yX10_isSo : MethodName := ⟨RX10, "isSo", "(II)Z"⟩
def yX10_holds : MethodName := ⟨RX10, "holds", "(II)I"⟩
def yX10_isHeld : MethodName := ⟨RX10, "isHeld", "(II)Z"⟩
def yX10_isChange : MethodName := ⟨RX10, "isChange", "(I)Z"⟩
def yX10_newChange : MethodName := ⟨RX10, "newChange", "(I)I"⟩
def yX10_change : MethodName := ⟨RX10, "change", "(I)I"⟩
def yX10_hasFile : MethodName := ⟨RX10, "hasFile", "(II)Z"⟩
def yX10_markAt : MethodName := ⟨RX10, "markAt", "(II)I"⟩
def yX10_edit : MethodName := ⟨RX10, "edit", "(IIIIII)I"⟩
def yX10_fitsAt : MethodName := ⟨RX10, "fitsAt", "(IIZ)I"⟩
def yX10_fitsIn : MethodName := ⟨RX10, "fitsIn", "(II)Z"⟩
def yX10_apply : MethodName := ⟨RX10, "apply", "(II)V"⟩
def yX10_moveLine : MethodName := ⟨RX10, "moveLine", "(IIII)V"⟩
def yX10_comes : MethodName := ⟨RX10, "comes", "(II)Z"⟩
def yX10_revert : MethodName := ⟨RX10, "revert", "(I)I"⟩
def yX10_pair : MethodName := ⟨RX10, "pair", "(II)I"⟩
def yX10_fits : MethodName := ⟨RX10, "fits", "(I)I"⟩
def yX10_gives : MethodName := ⟨RX10, "gives", "(II)Z"⟩
def yX10_isTouched : MethodName := ⟨RX10, "isTouched", "(II)Z"⟩
def yX10_touches : MethodName := ⟨RX10, "touches", "(II)I"⟩
def yX10_placeOf : MethodName := ⟨RX10, "placeOf", "(I)I"⟩
def yX10_queue : MethodName := ⟨RX10, "queue", "(I)I"⟩
def yX10_out : MethodName := ⟨RX10, "out", "(II)V"⟩
def yX10_leave : MethodName := ⟨RX10, "leave", "(I)I"⟩
def yX10_hand : MethodName := ⟨RX10, "hand", "(IZ)I"⟩
def yX10_size : MethodName := ⟨RX10, "size", "(I)I"⟩
def yX10_isFree : MethodName := ⟨RX10, "isFree", "(I)Z"⟩
def yX10_isReady : MethodName := ⟨RX10, "isReady", "(I)Z"⟩
def yX10_isFirst : MethodName := ⟨RX10, "isFirst", "(I)Z"⟩
def yX10_hasKind : MethodName := ⟨RX10, "hasKind", "(II)Z"⟩
def yX10_unitComes : MethodName := ⟨RX10, "unitComes", "(II)Z"⟩
def yX10_fitsAlone : MethodName := ⟨RX10, "fitsAlone", "(I)Z"⟩
def yX10_unitOut : MethodName := ⟨RX10, "unitOut", "(III)V"⟩
def yX10_firstReady : MethodName := ⟨RX10, "firstReady", "(I)I"⟩
def yX10_newRow : MethodName := ⟨RX10, "newRow", "(I)V"⟩
def yX10_addUnit : MethodName := ⟨RX10, "addUnit", "(I)V"⟩
def yX10_makeAlone : MethodName := ⟨RX10, "makeAlone", "(I)V"⟩
def yX10_makeMany : MethodName := ⟨RX10, "makeMany", "()V"⟩
def yX10_makeBatch : MethodName := ⟨RX10, "makeBatch", "()Z"⟩
def yX10_lookThrough : MethodName := ⟨RX10, "lookThrough", "(I)V"⟩
def yX10_cut : MethodName := ⟨RX10, "cut", "(I)V"⟩
def yX10_changesOf : MethodName := ⟨RX10, "changesOf", "(I)I"⟩
def yX10_run : MethodName := ⟨RX10, "run", "(I)V"⟩
def yX10_go : MethodName := ⟨RX10, "go", "(I)I"⟩
def yX10_isInWork : MethodName := ⟨RX10, "isInWork", "(I)Z"⟩
def yX10_about : MethodName := ⟨RX10, "about", "(II)I"⟩
def yX10_inLine : MethodName := ⟨RX10, "inLine", "(I)I"⟩
def yX10_inWork : MethodName := ⟨RX10, "inWork", "(I)I"⟩
def yX10_log : MethodName := ⟨RX10, "log", "(II)I"⟩
def yX10_alter : MethodName := ⟨RX10, "alter", "(III)I"⟩
def yX10_check : MethodName := ⟨RX10, "check", "()I"⟩
def yX10_keep : MethodName := ⟨RX10, "keep", "()I"⟩
def yX10_goBack : MethodName := ⟨RX10, "goBack", "()I"⟩
def yX10_count : MethodName := ⟨RX10, "count", "(I)I"⟩
def yL_cell : MethodName := ⟨RL, "cell", "([II)I"⟩
def yL_law : MethodName := ⟨RL, "law", "([I)Z"⟩
abbrev vwCl : List vw_C := [(RX0, TX0, 5), (RX1, TX1, 1), (RX2, TX2, 10), (RX3, TX3, 7), (RX4, TX4, 7), (RX5, TX5, 2), (RX6, TX6, 3), (RX7, TX7, 8), (RX8, TX8, 10), (RX9, TX9, 3), (RX10, TX10, 6)]
end
section
/-! An interpreter of the part of the bytecode that this claim uses, over whole numbers: values, a store of cells (what kind each is; what whole numbers it holds), blocks of instructions. Part 04 ties it to the machine. -/
abbrev xV : Type := Int ⊕ Int ⊕ Nat ⊕ Bool
abbrev vI (x : Int) : xV := .inl x
abbrev vL (x : Int) : xV := .inr (.inl x)
abbrev vR (r : Nat) : xV := .inr (.inr (.inl r))
abbrev vS : xV := .inr (.inr (.inr true))
abbrev vN : xV := .inr (.inr (.inr false))
/-- what a cell is: an array of ints of a length; an object of a class, and of each field: an int (none), a reference (null, or to a cell) -/
abbrev xK : Type := Nat ⊕ (Nat × List (Option (Option Nat)))
abbrev xM : Type := Nat → Nat → Int
abbrev xS : Type := List xK × xM
abbrev xR : Type := Option xV × xS
/-- pc, length, operation, its form, a, c, place in the pool, a number, places -/
abbrev xI : Type := Nat × Nat × Nat × Nat × Nat × Nat × Nat × Int × List Nat
def wr (x : Int) : Int := (x + 2147483648) % 4294967296 - 2147483648
def wl (x : Int) : Int := (x + 9223372036854775808) % 18446744073709551616 - 9223372036854775808
def up2 (μ : xM) (k i : Nat) (v : Int) : xM := fun k' i' => if k' = k ∧ i' = i then v else μ k' i'
def xxor (x y : Int) : Int := (Int32.ofInt x ^^^ Int32.ofInt y).toInt
-- reading the store
def xgr (σ : xS) (h ci k : Nat) : Option Nat := match σ.1[h]? with
  | some (.inr (c, fs)) => if c = ci then (match fs[k]? with | some (some (some r)) => some r | _ => none) else none
  | _ => none
def xgi (σ : xS) (h ci k : Nat) : Option Int := match σ.1[h]? with
  | some (.inr (c, fs)) => if c = ci then (match fs[k]? with | some none => some (σ.2 h k) | _ => none) else none
  | _ => none
def xpi (σ : xS) (h ci k : Nat) (z : Nat) (v : Int) : Option xS := match σ.1[h]? with
  | some (.inr (c, fs)) => if c = ci ∧ (z = 1 → v = 0 ∨ v = 1) then (match fs[k]? with | some none => some (σ.1, up2 σ.2 h k v) | _ => none) else none
  | _ => none
def xpr (σ : xS) (h ci k r : Nat) : Option xS := match σ.1[h]? with
  | some (.inr (c, fs)) => if c = ci then (match fs[k]? with | some (some _) => some (σ.1.set h (.inr (c, fs.set k (some (some r)))), σ.2) | _ => none) else none
  | _ => none
def xln (σ : xS) (a : Nat) : Option Nat := match σ.1[a]? with | some (.inl n) => some n | _ => none
def xai (σ : xS) (a : Nat) (i : Int) : Option Int := (xln σ a).bind fun n => if 0 ≤ i ∧ i < n then some (σ.2 a i.toNat) else none
def xas (σ : xS) (a : Nat) (i v : Int) : Option xS := (xln σ a).bind fun n => if 0 ≤ i ∧ i < n then some (σ.1, up2 σ.2 a i.toNat v) else none
def cp2 (μ : xM) (a sp d dp n : Nat) : xM := fun k j => if k = d ∧ dp ≤ j ∧ j < dp + n then μ a (sp + (j - dp)) else μ k j
def xcp (σ : xS) (a : Nat) (sp : Int) (d : Nat) (dp n : Int) : Option xS := (xln σ a).bind fun la => (xln σ d).bind fun ld =>
  if 0 ≤ sp ∧ 0 ≤ dp ∧ 0 ≤ n ∧ sp + n ≤ la ∧ dp + n ≤ ld then some (σ.1, cp2 σ.2 a sp.toNat d dp.toNat n.toNat) else none
def zr2 (μ : xM) (q : Nat) : xM := fun k j => if k = q then 0 else μ k j
/-- the fields of a new object, by the class's number: which are references -/
def xbk : Nat → List (Option (Option Nat))
  | 0 => [some none, some none, some none, none, none]
  | 1 => [some none]
  | 2 => [some none, some none, some none, some none, some none, some none, some none, some none, some none, none]
  | 3 => [some none, some none, some none, some none, some none, some none, some none]
  | 4 => [some none, some none, some none, some none, some none, some none, none]
  | 5 => [some none, none]
  | 6 => [some none, some none, none]
  | 7 => [some none, some none, some none, some none, some none, some none, none, none]
  | 8 => [some none, some none, some none, some none, some none, none, none, none, none, none]
  | 9 => [some none, some none, none]
  | 10 => [some none, some none, none, none, some none, some none]
  | _ => []
def xnw (σ : xS) (ci : Nat) : xS := (σ.1 ++ [.inr (ci, xbk ci)], zr2 σ.2 σ.1.length)
def xna (σ : xS) (n : Int) : Option xS := if 0 ≤ n ∧ n ≤ 100000 then some (σ.1 ++ [.inl n.toNat], zr2 σ.2 σ.1.length) else none
-- the stack
def pI : List xV → Option (Int × List xV) | .inl x :: S => some (x, S) | _ => none
def pII : List xV → Option (Int × Int × List xV) | .inl y :: .inl x :: S => some (x, y, S) | _ => none
def pL : List xV → Option (Int × List xV) | .inr (.inl x) :: S => some (x, S) | _ => none
def pLL : List xV → Option (Int × Int × List xV) | .inr (.inl y) :: .inr (.inl x) :: S => some (x, y, S) | _ => none
def pR : List xV → Option (Nat × List xV) | .inr (.inr (.inl r)) :: S => some (r, S) | _ => none
def pIR : List xV → Option (Int × Nat × List xV) | .inl x :: .inr (.inr (.inl r)) :: S => some (x, r, S) | _ => none
def pRR : List xV → Option (Nat × Nat × List xV) | .inr (.inr (.inl x)) :: .inr (.inr (.inl r)) :: S => some (x, r, S) | _ => none
def pA : List xV → Option (xV × List xV) | .inr (.inr (.inl r)) :: S => some (.inr (.inr (.inl r)), S) | .inr (.inr (.inr true)) :: S => some (.inr (.inr (.inr true)), S) | _ => none
def pIA : List xV → Option (Int × xV × List xV) | .inl x :: .inr (.inr (.inl r)) :: S => some (x, .inr (.inr (.inl r)), S) | .inl x :: .inr (.inr (.inr true)) :: S => some (x, .inr (.inr (.inr true)), S) | _ => none
def p1 : List xV → Option (xV × List xV) | .inl x :: S => some (.inl x, S) | .inr (.inr (.inl r)) :: S => some (.inr (.inr (.inl r)), S) | _ => none
def ldI (L : List xV) (a : Nat) : Option Int := match L[a]? with | some (.inl x) => some x | _ => none
def ldL (L : List xV) (a : Nat) : Option Int := match L[a]? with | some (.inr (.inl x)) => some x | _ => none
def ldA (L : List xV) (a : Nat) : Option xV := match L[a]? with | some (.inr (.inr (.inl r))) => some (.inr (.inr (.inl r))) | some (.inr (.inr (.inr true))) => some (.inr (.inr (.inr true))) | _ => none
def xcat : xV → Nat | .inr (.inl _) => 2 | _ => 1
def xle : Nat → List xV → Bool
  | _, [] => true
  | n + 1, .inl _ :: S => xle n S
  | n + 1, .inr (.inr _) :: S => xle n S
  | n + 2, .inr (.inl _) :: S => xle n S
  | _, _ => false
def st8 (n : Nat) (S : List xV) : Option (List xV) := match xle n S with | true => some S | false => none
def xtake : Nat → List xV → List xV → Option (List xV × List xV)
  | 0, acc, S => some (acc, S)
  | _ + 1, _, [] => none
  | n + 1, acc, v :: S => xtake n (v :: acc) S
/-- operations on locals and stack alone -/
def xpure (o a : Nat) (v : Int) (L S : List xV) : Option (List xV × List xV) := match o with
  | 0 => some (L, .inl v :: S)
  | 1 => (ldI L a).bind fun x => some (L, .inl x :: S)
  | 2 => (ldA L a).bind fun x => some (L, x :: S)
  | 3 => (ldL L a).bind fun x => some (L, .inr (.inl x) :: S)
  | 4 => (pI S).bind fun q => some (L.set a (.inl q.1), q.2)
  | 5 => (pA S).bind fun q => some (L.set a q.1, q.2)
  | 6 => (pL S).bind fun q => some ((L.set a (.inr (.inl q.1))).set (a + 1) vN, q.2)
  | 7 => (ldI L a).bind fun x => some (L.set a (.inl (wr (x + v))), S)
  | 8 => (pII S).bind fun q => some (L, .inl (wr (q.1 + q.2.1)) :: q.2.2)
  | 9 => (pII S).bind fun q => some (L, .inl (wr (q.1 - q.2.1)) :: q.2.2)
  | 10 => (pII S).bind fun q => some (L, .inl (wr (q.1 * q.2.1)) :: q.2.2)
  | 11 => (pII S).bind fun q => if 0 ≤ q.1 ∧ 0 < q.2.1 then some (L, .inl (q.1 / q.2.1) :: q.2.2) else none
  | 12 => (pII S).bind fun q => if 0 ≤ q.1 ∧ 0 < q.2.1 then some (L, .inl (q.1 % q.2.1) :: q.2.2) else none
  | 13 => (pII S).bind fun q => if q.2.1 = 8 then some (L, .inl (q.1 % 4294967296 / 256) :: q.2.2) else none
  | 14 => (pII S).bind fun q => if q.2.1 = 31 then some (L, .inl (q.1 % 32) :: q.2.2) else none
  | 15 => (pII S).bind fun q => some (L, .inl (xxor q.1 q.2.1) :: q.2.2)
  | 16 => (pI S).bind fun q => some (L, .inr (.inl q.1) :: q.2)
  | 17 => (pL S).bind fun q => some (L, .inl (wr q.1) :: q.2)
  | 18 => some (L, .inr (.inl v) :: S)
  | 19 => (pLL S).bind fun q => some (L, .inl (if q.1 = q.2.1 then 0 else if q.2.1 < q.1 then 1 else -1) :: q.2.2)
  | 20 => (pLL S).bind fun q => some (L, .inr (.inl (wl (q.1 + q.2.1))) :: q.2.2)
  | 21 => (pLL S).bind fun q => some (L, .inr (.inl (wl (q.1 * q.2.1))) :: q.2.2)
  | 22 => (pLL S).bind fun q => if 0 ≤ q.1 ∧ 0 < q.2.1 then some (L, .inr (.inl (q.1 % q.2.1)) :: q.2.2) else none
  | 23 => (p1 S).bind fun q => some (L, q.1 :: q.1 :: q.2)
  | 24 => (p1 S).bind fun q => (p1 q.2).bind fun r => some (L, q.1 :: r.1 :: q.1 :: r.1 :: r.2)
  | 25 => (p1 S).bind fun q => some (L, q.2)
  | _ => none
/-- operations on the store -/
def xmemo (sc : Nat × (Nat → Int)) (o w a c : Nat) (S : List xV) (σ : xS) : Option (List xV × xS) := match o with
  | 31 => (pA S).bind fun q => (match q.1 with | .inr (.inr (.inl r)) => (xln σ r).bind fun n => some (.inl (n : Int) :: q.2, σ) | _ => some (.inl (sc.1 : Int) :: q.2, σ))
  | 32 => (pIA S).bind fun q => (match q.2.1 with | .inr (.inr (.inl r)) => (xai σ r q.1).bind fun x => some (.inl x :: q.2.2, σ) | _ => if 0 ≤ q.1 ∧ q.1 < sc.1 then some (.inl (sc.2 q.1.toNat) :: q.2.2, σ) else none)
  | 33 => (pI S).bind fun v => (pIR v.2).bind fun q => (xas σ q.2.1 q.1 v.1).bind fun σ' => some (q.2.2, σ')
  | 34 => (pR S).bind fun q => (xgi σ q.1 a c).bind fun x => some (.inl x :: q.2, σ)
  | 35 => (pR S).bind fun q => (xgr σ q.1 a c).bind fun x => some (.inr (.inr (.inl x)) :: q.2, σ)
  | 36 => (pIR S).bind fun q => (xpi σ q.2.1 a c w q.1).bind fun σ' => some (q.2.2, σ')
  | 37 => (pRR S).bind fun q => (xpr σ q.2.1 a c q.1).bind fun σ' => some (q.2.2, σ')
  | 38 => some (.inr (.inr (.inl σ.1.length)) :: S, xnw σ a)
  | 39 => (pI S).bind fun q => (xna σ q.1).bind fun σ' => some (.inr (.inr (.inl σ.1.length)) :: q.2, σ')
  | 43 => (pR S).bind fun q => (st8 8 q.2).bind fun S' => some (S', σ)
  | 44 => (pI S).bind fun n => (pIR n.2).bind fun d => (pIR d.2.2).bind fun s => (st8 8 s.2.2).bind fun S' => (xcp σ s.2.1 s.1 d.2.1 d.1 n.1).bind fun σ' => some (S', σ')
  | 45 => (pII S).bind fun q => (st8 8 q.2.2).bind fun S' => some (.inl (if q.2.1 < q.1 then q.2.1 else q.1) :: S', σ)
  | _ => none
def xif (c : Nat) (x y : Int) (t e : Option xR) : Option xR := match c with
  | 0 => if x = y then t else e
  | 1 => if x = y then e else t
  | 2 => if x < y then t else e
  | 3 => if x < y then e else t
  | 4 => if y < x then t else e
  | _ => if y < x then e else t
def xsw (x : Int) (J : Nat → Option xR) (d : Nat) : Int → List Nat → Option xR
  | _, [] => J d
  | lo, t :: ts => if x = lo then J t else xsw x J d (lo + 1) ts
def xcI (r : Option xR) (k : Int → xS → Option xR) : Option xR := match r with | some (some (.inl x), σ) => k x σ | _ => none
def xcV (r : Option xR) (k : xS → Option xR) : Option xR := match r with | some (none, σ) => k σ | _ => none
/-- the receiver of a call is an object of the class -/
def xis (σ : xS) (h ci : Nat) : Bool := match σ.1[h]? with | some (.inr (c, _)) => c == ci | _ => false
def xcv (env : Nat → List xV → xS → Option xR) (a ci : Nat) (as : List xV) (σ : xS) : Option xR := match as with
  | .inr (.inr (.inl h)) :: _ => (match xis σ h ci with | true => env a as σ | false => none)
  | _ => none
def xci (env : Nat → List xV → xS → Option xR) (a : Nat) (as : List xV) (σ : xS) : Option xR := match as with
  | .inr (.inr (.inl _)) :: _ => env a as σ
  | _ => none
def xstep (sc : Nat × (Nat → Int)) (env : Nat → List xV → xS → Option xR) (j : Nat → List xV → List xV → xS → Option xR) (e : xI) (L S : List xV) (σ : xS) (k : List xV → List xV → xS → Option xR) : Option xR := match e with
  | (_, _, o, w, a, c, _, v, ts) => match o with
    | 26 => j a L S σ
    | 27 => j a L S σ
    | 28 => (pII S).bind fun q => xif c q.1 q.2.1 (j a L q.2.2 σ) (k L q.2.2 σ)
    | 29 => (pI S).bind fun q => xif c q.1 0 (j a L q.2 σ) (k L q.2 σ)
    | 30 => (pI S).bind fun q => xsw q.1 (fun b => j b L q.2 σ) c v ts
    | 31 => (xmemo sc 31 w a c S σ).bind fun q => k L q.1 q.2
    | 32 => (xmemo sc 32 w a c S σ).bind fun q => k L q.1 q.2
    | 33 => (xmemo sc 33 w a c S σ).bind fun q => k L q.1 q.2
    | 34 => (xmemo sc 34 w a c S σ).bind fun q => k L q.1 q.2
    | 35 => (xmemo sc 35 w a c S σ).bind fun q => k L q.1 q.2
    | 36 => (xmemo sc 36 w a c S σ).bind fun q => k L q.1 q.2
    | 37 => (xmemo sc 37 w a c S σ).bind fun q => k L q.1 q.2
    | 38 => (xmemo sc 38 w a c S σ).bind fun q => k L q.1 q.2
    | 39 => (xmemo sc 39 w a c S σ).bind fun q => k L q.1 q.2
    | 43 => (xmemo sc 43 w a c S σ).bind fun q => k L q.1 q.2
    | 44 => (xmemo sc 44 w a c S σ).bind fun q => k L q.1 q.2
    | 45 => (xmemo sc 45 w a c S σ).bind fun q => k L q.1 q.2
    | 40 => (xtake c [] S).bind fun q => (st8 8 q.2).bind fun S' => xcI (xcv env a w q.1 σ) fun x σ' => k L (.inl x :: S') σ'
    | 41 => (xtake c [] S).bind fun q => (st8 8 q.2).bind fun S' => xcV (xcv env a w q.1 σ) fun σ' => k L S' σ'
    | 42 => (xtake c [] S).bind fun q => (st8 8 q.2).bind fun S' => xcI (env a q.1 σ) fun x σ' => k L (.inl x :: S') σ'
    | 48 => (xtake c [] S).bind fun q => (st8 8 q.2).bind fun S' => xcV (xci env a q.1 σ) fun σ' => k L S' σ'
    | 46 => (pI S).bind fun q => if a = 1 → q.1 = 0 ∨ q.1 = 1 then some (some (.inl q.1), σ) else none
    | 47 => some (none, σ)
    | o => (xpure o a v L S).bind fun q => k q.1 q.2 σ
def xblk (sc : Nat × (Nat → Int)) (env : Nat → List xV → xS → Option xR) (j : Nat → List xV → List xV → xS → Option xR) : List xI → List xV → List xV → xS → Option xR
  | [], _, _, _ => none
  | e :: es, L, S, σ => xstep sc env j e L S σ (xblk sc env j es)
/-- the locals at a method's entry: a long takes two -/
def xlo (as : List xV) : List xV := as.flatMap fun v => match v with | .inr (.inl x) => [.inr (.inl x), vN] | v => [v]
def xloc (n : Nat) (as : List xV) : List xV := xlo as ++ List.replicate (n - (xlo as).length) vN
def xrun (sc : Nat × (Nat → Int)) (cd : Nat → Nat → List xI) (nl : Nat → Nat) : Nat → Nat → Nat → List xV → List xV → xS → Option xR
  | 0, _, _, _, _, _ => none
  | n + 1, mi, b, L, S, σ => xblk sc (fun a as σ => xrun sc cd nl n a 0 (xloc (nl a) as) [] σ) (fun b L S σ => xrun sc cd nl n mi b L S σ) (cd mi b) L S σ
theorem ite_ev {P : Prop} [Decidable P] {t e : Option xR} {ts es : Nat → Option xR} {r : xR} (ht : t = some r → ∃ n, ∀ m, n ≤ m → ts m = some r) (he : e = some r → ∃ n, ∀ m, n ≤ m → es m = some r) (h : (if P then t else e) = some r) : ∃ n, ∀ m, n ≤ m → (if P then ts m else es m) = some r := by
  by_cases hP : P
  · rw [if_pos hP] at h
    obtain ⟨n, hn⟩ := ht h
    exact ⟨n, fun m hm => by rw [if_pos hP]; exact hn m hm⟩
  · rw [if_neg hP] at h
    obtain ⟨n, hn⟩ := he h
    exact ⟨n, fun m hm => by rw [if_neg hP]; exact hn m hm⟩
theorem xif_ev {c : Nat} {x y : Int} {t e : Option xR} {ts es : Nat → Option xR} {r : xR} (ht : t = some r → ∃ n, ∀ m, n ≤ m → ts m = some r) (he : e = some r → ∃ n, ∀ m, n ≤ m → es m = some r) (h : xif c x y t e = some r) : ∃ n, ∀ m, n ≤ m → xif c x y (ts m) (es m) = some r := by
  match c, h with
  | 0, h => exact ite_ev ht he h
  | 1, h => exact ite_ev he ht h
  | 2, h => exact ite_ev ht he h
  | 3, h => exact ite_ev he ht h
  | 4, h => exact ite_ev ht he h
  | c + 5, h => exact ite_ev he ht h
theorem xsw_ev {x : Int} {J : Nat → Option xR} {Js : Nat → Nat → Option xR} {d : Nat} {r : xR} (hJ : ∀ b, J b = some r → ∃ n, ∀ m, n ≤ m → Js m b = some r) : ∀ (ts : List Nat) (lo : Int), xsw x J d lo ts = some r → ∃ n, ∀ m, n ≤ m → xsw x (Js m) d lo ts = some r := by
  intro ts
  induction ts with
  | nil => intro lo h; exact hJ d h
  | cons t ts ih =>
    intro lo h
    unfold xsw at h ⊢
    split at h
    · rename_i hc
      obtain ⟨n, hn⟩ := hJ t h
      exact ⟨n, fun m hm => by rw [if_pos hc]; exact hn m hm⟩
    · rename_i hc
      obtain ⟨n, hn⟩ := ih _ h
      exact ⟨n, fun m hm => by rw [if_neg hc]; exact hn m hm⟩
theorem xcI_of {r : Option xR} {k : Int → xS → Option xR} {t : xR} (h : xcI r k = some t) : ∃ x σ, r = some (some (.inl x), σ) ∧ k x σ = some t := by
  unfold xcI at h
  split at h
  · exact ⟨_, _, rfl, h⟩
  · cases h
theorem xcV_of {r : Option xR} {k : xS → Option xR} {t : xR} (h : xcV r k = some t) : ∃ σ, r = some (none, σ) ∧ k σ = some t := by
  unfold xcV at h
  split at h
  · exact ⟨_, rfl, h⟩
  · cases h
theorem xcv_of {env : Nat → List xV → xS → Option xR} {a ci : Nat} {as : List xV} {σ : xS} {t : xR} (h : xcv env a ci as σ = some t) : ∃ h0 as', as = .inr (.inr (.inl h0)) :: as' ∧ xis σ h0 ci = true ∧ env a as σ = some t := by
  unfold xcv at h
  split at h
  · split at h
    · rename_i hh
      exact ⟨_, _, rfl, hh, h⟩
    · cases h
  · cases h
theorem xci_of {env : Nat → List xV → xS → Option xR} {a : Nat} {as : List xV} {σ : xS} {t : xR} (h : xci env a as σ = some t) : ∃ h0 as', as = .inr (.inr (.inl h0)) :: as' ∧ env a as σ = some t := by
  unfold xci at h
  split at h
  · exact ⟨_, _, rfl, h⟩
  · cases h
theorem xstep_ev {sc : Nat × (Nat → Int)} {env : Nat → List xV → xS → Option xR} {j : Nat → List xV → List xV → xS → Option xR} {envs : Nat → Nat → List xV → xS → Option xR} {js : Nat → Nat → List xV → List xV → xS → Option xR} {e : xI} {L S : List xV} {σ : xS} {k : List xV → List xV → xS → Option xR} {ks : Nat → List xV → List xV → xS → Option xR} {r : xR}
    (hE : ∀ a as σ q, env a as σ = some q → ∃ n, ∀ m, n ≤ m → envs m a as σ = some q) (hJ : ∀ b L S σ, j b L S σ = some r → ∃ n, ∀ m, n ≤ m → js m b L S σ = some r) (hk : ∀ L S σ, k L S σ = some r → ∃ n, ∀ m, n ≤ m → ks m L S σ = some r)
    (h : xstep sc env j e L S σ k = some r) : ∃ n, ∀ m, n ≤ m → xstep sc (envs m) (js m) e L S σ (ks m) = some r := by
  obtain ⟨pc, len, o, w, a, c, z, v, ts⟩ := e
  unfold xstep at h ⊢
  dsimp only at h ⊢
  split at h
  · exact hJ _ _ _ _ h
  · exact hJ _ _ _ _ h
  · obtain ⟨q, hq, h⟩ := Option.bind_eq_some_iff.mp h
    simp only [hq, Option.bind_some]
    exact xif_ev (hJ _ _ _ _) (hk _ _ _) h
  · obtain ⟨q, hq, h⟩ := Option.bind_eq_some_iff.mp h
    simp only [hq, Option.bind_some]
    exact xif_ev (hJ _ _ _ _) (hk _ _ _) h
  · obtain ⟨q, hq, h⟩ := Option.bind_eq_some_iff.mp h
    simp only [hq, Option.bind_some]
    exact xsw_ev (fun b => hJ _ _ _ _) _ _ h
  iterate 12
    · obtain ⟨q, hq, h⟩ := Option.bind_eq_some_iff.mp h
      simp only [hq, Option.bind_some]
      exact hk _ _ _ h
  · obtain ⟨q, hq, h⟩ := Option.bind_eq_some_iff.mp h
    obtain ⟨S', hS, h⟩ := Option.bind_eq_some_iff.mp h
    obtain ⟨x, σ', hc, h⟩ := xcI_of h
    obtain ⟨h0, as', e1, e2, e3⟩ := xcv_of hc
    obtain ⟨n1, h1⟩ := hE _ _ _ _ e3
    obtain ⟨n2, h2⟩ := hk _ _ _ h
    refine ⟨max n1 n2, fun m hm => ?_⟩
    simp only [hq, hS, Option.bind_some]
    have h3 := h1 m (by omega)
    rw [e1] at h3 ⊢
    simp only [xcv, e2, h3, xcI]
    exact h2 m (by omega)
  · obtain ⟨q, hq, h⟩ := Option.bind_eq_some_iff.mp h
    obtain ⟨S', hS, h⟩ := Option.bind_eq_some_iff.mp h
    obtain ⟨σ', hc, h⟩ := xcV_of h
    obtain ⟨h0, as', e1, e2, e3⟩ := xcv_of hc
    obtain ⟨n1, h1⟩ := hE _ _ _ _ e3
    obtain ⟨n2, h2⟩ := hk _ _ _ h
    refine ⟨max n1 n2, fun m hm => ?_⟩
    simp only [hq, hS, Option.bind_some]
    have h3 := h1 m (by omega)
    rw [e1] at h3 ⊢
    simp only [xcv, e2, h3, xcV]
    exact h2 m (by omega)
  · obtain ⟨q, hq, h⟩ := Option.bind_eq_some_iff.mp h
    obtain ⟨S', hS, h⟩ := Option.bind_eq_some_iff.mp h
    obtain ⟨x, σ', hc, h⟩ := xcI_of h
    obtain ⟨n1, h1⟩ := hE _ _ _ _ hc
    obtain ⟨n2, h2⟩ := hk _ _ _ h
    refine ⟨max n1 n2, fun m hm => ?_⟩
    simp only [hq, hS, Option.bind_some, h1 m (by omega), xcI]
    exact h2 m (by omega)
  · obtain ⟨q, hq, h⟩ := Option.bind_eq_some_iff.mp h
    obtain ⟨S', hS, h⟩ := Option.bind_eq_some_iff.mp h
    obtain ⟨σ', hc, h⟩ := xcV_of h
    obtain ⟨h0, as', e1, e3⟩ := xci_of hc
    obtain ⟨n1, h1⟩ := hE _ _ _ _ e3
    obtain ⟨n2, h2⟩ := hk _ _ _ h
    refine ⟨max n1 n2, fun m hm => ?_⟩
    simp only [hq, hS, Option.bind_some]
    have h3 := h1 m (by omega)
    rw [e1] at h3 ⊢
    simp only [xci, h3, xcV]
    exact h2 m (by omega)
  · exact ⟨0, fun _ _ => h⟩
  · exact ⟨0, fun _ _ => h⟩
  · obtain ⟨q, hq, h⟩ := Option.bind_eq_some_iff.mp h
    simp only [hq, Option.bind_some]
    exact hk _ _ _ h
theorem xblk_ev {sc : Nat × (Nat → Int)} {env : Nat → List xV → xS → Option xR} {j : Nat → List xV → List xV → xS → Option xR} {envs : Nat → Nat → List xV → xS → Option xR} {js : Nat → Nat → List xV → List xV → xS → Option xR} {r : xR}
    (hE : ∀ a as σ q, env a as σ = some q → ∃ n, ∀ m, n ≤ m → envs m a as σ = some q) (hJ : ∀ b L S σ, j b L S σ = some r → ∃ n, ∀ m, n ≤ m → js m b L S σ = some r) :
    ∀ (es : List xI) (L S : List xV) (σ : xS), xblk sc env j es L S σ = some r → ∃ n, ∀ m, n ≤ m → xblk sc (envs m) (js m) es L S σ = some r := by
  intro es
  induction es with
  | nil => intro L S σ h; cases h
  | cons e es ih =>
    intro L S σ h
    exact xstep_ev hE hJ ih h
theorem xrun_up {sc : Nat × (Nat → Int)} {cd : Nat → Nat → List xI} {nl : Nat → Nat} : ∀ (n mi b : Nat) (L S : List xV) (σ : xS) (r : xR), xrun sc cd nl n mi b L S σ = some r → xrun sc cd nl (n + 1) mi b L S σ = some r := by
  intro n
  induction n with
  | zero => intro mi b L S σ r h; cases h
  | succ n ih =>
    intro mi b L S σ r h
    unfold xrun at h ⊢
    obtain ⟨n0, h0⟩ := xblk_ev (envs := fun _ a as σ => xrun sc cd nl (n + 1) a 0 (xloc (nl a) as) [] σ) (js := fun _ b L S σ => xrun sc cd nl (n + 1) mi b L S σ) (fun a as σ q hq => ⟨0, fun _ _ => ih _ _ _ _ _ _ hq⟩) (fun b L S σ hq => ⟨0, fun _ _ => ih _ _ _ _ _ _ hq⟩) _ _ _ _ h
    exact h0 n0 (Nat.le_refl _)
theorem xrun_mono {sc : Nat × (Nat → Int)} {cd : Nat → Nat → List xI} {nl : Nat → Nat} {n mi b : Nat} {L S : List xV} {σ : xS} {r : xR} (h : xrun sc cd nl n mi b L S σ = some r) : ∀ m, n ≤ m → xrun sc cd nl m mi b L S σ = some r := by
  intro m hm
  induction m with
  | zero => rw [show n = 0 by omega] at h; exact h
  | succ m ih =>
    by_cases hc : n ≤ m
    · exact xrun_up _ _ _ _ _ _ _ (ih hc)
    · rw [show m + 1 = n by omega]; exact h
/-- the run from a block on, for good: none if it does not end -/
noncomputable def xat (sc : Nat × (Nat → Int)) (cd : Nat → Nat → List xI) (nl : Nat → Nat) (mi b : Nat) (L S : List xV) (σ : xS) : Option xR :=
  @dite _ (∃ n, (xrun sc cd nl n mi b L S σ).isSome = true) (Classical.propDecidable _) (fun h => xrun sc cd nl (Classical.choose h) mi b L S σ) (fun _ => none)
theorem xat_iff {sc : Nat × (Nat → Int)} {cd : Nat → Nat → List xI} {nl : Nat → Nat} {mi b : Nat} {L S : List xV} {σ : xS} {r : xR} : xat sc cd nl mi b L S σ = some r ↔ ∃ n, xrun sc cd nl n mi b L S σ = some r := by
  unfold xat
  constructor
  · intro h
    split at h
    · exact ⟨_, h⟩
    · cases h
  · rintro ⟨n, hn⟩
    have hx : ∃ n, (xrun sc cd nl n mi b L S σ).isSome = true := ⟨n, by rw [hn]; rfl⟩
    rw [dif_pos hx]
    have h2 := Classical.choose_spec hx
    obtain ⟨r2, hr2⟩ := Option.isSome_iff_exists.mp h2
    have h3 := xrun_mono hr2 (max n (Classical.choose hx)) (by omega)
    have h4 := xrun_mono hn (max n (Classical.choose hx)) (by omega)
    rw [hr2, ← h3, h4]
theorem xat_ev {sc : Nat × (Nat → Int)} {cd : Nat → Nat → List xI} {nl : Nat → Nat} {mi b : Nat} {L S : List xV} {σ : xS} {r : xR} (h : xat sc cd nl mi b L S σ = some r) : ∃ n, ∀ m, n ≤ m → xrun sc cd nl m mi b L S σ = some r := by
  obtain ⟨n, hn⟩ := xat_iff.mp h
  exact ⟨n, xrun_mono hn⟩
theorem xat_eq (sc : Nat × (Nat → Int)) (cd : Nat → Nat → List xI) (nl : Nat → Nat) (mi b : Nat) (L S : List xV) (σ : xS) : xat sc cd nl mi b L S σ = xblk sc (fun a as σ => xat sc cd nl a 0 (xloc (nl a) as) [] σ) (fun b L S σ => xat sc cd nl mi b L S σ) (cd mi b) L S σ := by
  apply Option.ext
  intro r
  constructor
  · intro h
    obtain ⟨n, hn⟩ := xat_iff.mp h
    cases n with
    | zero => cases hn
    | succ n =>
      unfold xrun at hn
      obtain ⟨n0, h0⟩ := xblk_ev (envs := fun _ a as σ => xat sc cd nl a 0 (xloc (nl a) as) [] σ) (js := fun _ b L S σ => xat sc cd nl mi b L S σ) (fun a as σ q hq => ⟨0, fun _ _ => xat_iff.mpr ⟨n, hq⟩⟩) (fun b L S σ hq => ⟨0, fun _ _ => xat_iff.mpr ⟨n, hq⟩⟩) _ _ _ _ hn
      exact h0 n0 (Nat.le_refl _)
  · intro h
    obtain ⟨n0, h0⟩ := xblk_ev (envs := fun n a as σ => xrun sc cd nl n a 0 (xloc (nl a) as) [] σ) (js := fun n b L S σ => xrun sc cd nl n mi b L S σ) (fun a as σ q hq => xat_ev hq) (fun b L S σ hq => xat_ev hq) _ _ _ _ h
    exact xat_iff.mpr ⟨n0 + 1, h0 n0 (Nat.le_refl _)⟩
end

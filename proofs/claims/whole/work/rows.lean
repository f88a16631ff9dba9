section
/-- a private method of a class that the tables say can be made, by its rows of tables_1 -/
def lw_okq (q : MethodName × Nat) : Prop := (q.1.cls ≠ "java/lang/invoke/MethodHandle" ∧ q.1.cls ≠ "java/lang/invoke/VarHandle") ∧ Cond.instantiable q.1.cls q.2 ∈ tables_1 ∧ Cond.privateMethod q.1 ∈ tables_1 ∧ Cond.instanceMethod q.1 ∈ tables_1
theorem lw_p0 : lw_okq (⟨"MergeLine", "isTakenState", "(I)Z"⟩, 3) := ⟨⟨by decide +kernel, by decide +kernel⟩, List.mem_of_getElem? (i := 15) (by decide +kernel), List.mem_of_getElem? (i := 346) (by decide +kernel), List.mem_of_getElem? (i := 347) (by decide +kernel)⟩
theorem lw_p1 : lw_okq (⟨"MergeLine", "isChange", "(I)Z"⟩, 3) := ⟨⟨by decide +kernel, by decide +kernel⟩, List.mem_of_getElem? (i := 15) (by decide +kernel), List.mem_of_getElem? (i := 414) (by decide +kernel), List.mem_of_getElem? (i := 415) (by decide +kernel)⟩
theorem lw_p2 : lw_okq (⟨"MergeLine$Hall", "findLone", "()I"⟩, 7) := ⟨⟨by decide +kernel, by decide +kernel⟩, List.mem_of_getElem? (i := 23) (by decide +kernel), List.mem_of_getElem? (i := 598) (by decide +kernel), List.mem_of_getElem? (i := 599) (by decide +kernel)⟩
theorem lw_p3 : lw_okq (⟨"MergeLine$Hall", "isReadyAt", "(I)Z"⟩, 7) := ⟨⟨by decide +kernel, by decide +kernel⟩, List.mem_of_getElem? (i := 23) (by decide +kernel), List.mem_of_getElem? (i := 602) (by decide +kernel), List.mem_of_getElem? (i := 603) (by decide +kernel)⟩
theorem lw_p4 : lw_okq (⟨"MergeLine$Hall", "isReady", "(I)Z"⟩, 7) := ⟨⟨by decide +kernel, by decide +kernel⟩, List.mem_of_getElem? (i := 23) (by decide +kernel), List.mem_of_getElem? (i := 611) (by decide +kernel), List.mem_of_getElem? (i := 612) (by decide +kernel)⟩
theorem lw_p5 : lw_okq (⟨"MergeLine$Hall", "gather", "()V"⟩, 7) := ⟨⟨by decide +kernel, by decide +kernel⟩, List.mem_of_getElem? (i := 23) (by decide +kernel), List.mem_of_getElem? (i := 631) (by decide +kernel), List.mem_of_getElem? (i := 632) (by decide +kernel)⟩
theorem lw_p6 : lw_okq (⟨"MergeLine$Hall", "unitComes", "(III)Z"⟩, 7) := ⟨⟨by decide +kernel, by decide +kernel⟩, List.mem_of_getElem? (i := 23) (by decide +kernel), List.mem_of_getElem? (i := 645) (by decide +kernel), List.mem_of_getElem? (i := 646) (by decide +kernel)⟩
theorem lw_p7 : lw_okq (⟨"MergeLine$Pile", "push", "(III)V"⟩, 8) := ⟨⟨by decide +kernel, by decide +kernel⟩, List.mem_of_getElem? (i := 144) (by decide +kernel), List.mem_of_getElem? (i := 663) (by decide +kernel), List.mem_of_getElem? (i := 664) (by decide +kernel)⟩
theorem lw_p8 : lw_okq (⟨"MergeLine$Hall", "sendBack", "(II)V"⟩, 7) := ⟨⟨by decide +kernel, by decide +kernel⟩, List.mem_of_getElem? (i := 23) (by decide +kernel), List.mem_of_getElem? (i := 668) (by decide +kernel), List.mem_of_getElem? (i := 669) (by decide +kernel)⟩
theorem lw_p9 : lw_okq (⟨"MergeLine$Hall", "gatherLone", "(I)V"⟩, 7) := ⟨⟨by decide +kernel, by decide +kernel⟩, List.mem_of_getElem? (i := 23) (by decide +kernel), List.mem_of_getElem? (i := 673) (by decide +kernel), List.mem_of_getElem? (i := 674) (by decide +kernel)⟩
theorem lw_p10 : lw_okq (⟨"MergeLine$Pile", "dropUnits", "(II)V"⟩, 8) := ⟨⟨by decide +kernel, by decide +kernel⟩, List.mem_of_getElem? (i := 144) (by decide +kernel), List.mem_of_getElem? (i := 696) (by decide +kernel), List.mem_of_getElem? (i := 697) (by decide +kernel)⟩
theorem lw_p11 : lw_okq (⟨"MergeLine$Hall", "isTouchedByTop", "(I)Z"⟩, 7) := ⟨⟨by decide +kernel, by decide +kernel⟩, List.mem_of_getElem? (i := 23) (by decide +kernel), List.mem_of_getElem? (i := 718) (by decide +kernel), List.mem_of_getElem? (i := 719) (by decide +kernel)⟩
theorem lw_p12 : lw_okq (⟨"MergeLine$Pile", "changesAhead", "(I)I"⟩, 8) := ⟨⟨by decide +kernel, by decide +kernel⟩, List.mem_of_getElem? (i := 144) (by decide +kernel), List.mem_of_getElem? (i := 728) (by decide +kernel), List.mem_of_getElem? (i := 729) (by decide +kernel)⟩
theorem lw_p13 : lw_okq (⟨"MergeLine$Ledger", "setFact", "(II)V"⟩, 3) := ⟨⟨by decide +kernel, by decide +kernel⟩, List.mem_of_getElem? (i := 177) (by decide +kernel), List.mem_of_getElem? (i := 748) (by decide +kernel), List.mem_of_getElem? (i := 749) (by decide +kernel)⟩
theorem lw_p14 : lw_okq (⟨"MergeLine$Hall", "takeTop", "()V"⟩, 7) := ⟨⟨by decide +kernel, by decide +kernel⟩, List.mem_of_getElem? (i := 23) (by decide +kernel), List.mem_of_getElem? (i := 758) (by decide +kernel), List.mem_of_getElem? (i := 759) (by decide +kernel)⟩
theorem lw_p15 : lw_okq (⟨"MergeLine$Hall", "failTop", "()V"⟩, 7) := ⟨⟨by decide +kernel, by decide +kernel⟩, List.mem_of_getElem? (i := 23) (by decide +kernel), List.mem_of_getElem? (i := 791) (by decide +kernel), List.mem_of_getElem? (i := 792) (by decide +kernel)⟩
def lw_privs_1 : List (MethodName × Nat) := [(⟨"MergeLine", "isTakenState", "(I)Z"⟩, 3), (⟨"MergeLine", "isChange", "(I)Z"⟩, 3), (⟨"MergeLine$Hall", "findLone", "()I"⟩, 7), (⟨"MergeLine$Hall", "isReadyAt", "(I)Z"⟩, 7), (⟨"MergeLine$Hall", "isReady", "(I)Z"⟩, 7), (⟨"MergeLine$Hall", "gather", "()V"⟩, 7), (⟨"MergeLine$Hall", "unitComes", "(III)Z"⟩, 7), (⟨"MergeLine$Pile", "push", "(III)V"⟩, 8), (⟨"MergeLine$Hall", "sendBack", "(II)V"⟩, 7), (⟨"MergeLine$Hall", "gatherLone", "(I)V"⟩, 7), (⟨"MergeLine$Pile", "dropUnits", "(II)V"⟩, 8), (⟨"MergeLine$Hall", "isTouchedByTop", "(I)Z"⟩, 7), (⟨"MergeLine$Pile", "changesAhead", "(I)I"⟩, 8), (⟨"MergeLine$Ledger", "setFact", "(II)V"⟩, 3), (⟨"MergeLine$Hall", "takeTop", "()V"⟩, 7), (⟨"MergeLine$Hall", "failTop", "()V"⟩, 7)]
theorem lw_r1 : ∀ q ∈ lw_privs_1, lw_okq q := List.forall_mem_cons.mpr ⟨lw_p0, List.forall_mem_cons.mpr ⟨lw_p1, List.forall_mem_cons.mpr ⟨lw_p2, List.forall_mem_cons.mpr ⟨lw_p3, List.forall_mem_cons.mpr ⟨lw_p4, List.forall_mem_cons.mpr ⟨lw_p5, List.forall_mem_cons.mpr ⟨lw_p6, List.forall_mem_cons.mpr ⟨lw_p7, List.forall_mem_cons.mpr ⟨lw_p8, List.forall_mem_cons.mpr ⟨lw_p9, List.forall_mem_cons.mpr ⟨lw_p10, List.forall_mem_cons.mpr ⟨lw_p11, List.forall_mem_cons.mpr ⟨lw_p12, List.forall_mem_cons.mpr ⟨lw_p13, List.forall_mem_cons.mpr ⟨lw_p14, List.forall_mem_cons.mpr ⟨lw_p15, fun _ h => absurd h List.not_mem_nil⟩⟩⟩⟩⟩⟩⟩⟩⟩⟩⟩⟩⟩⟩⟩⟩
theorem lw_p16 : lw_okq (⟨"MergeLineModel", "lines", "(II)I"⟩, 6) := ⟨⟨by decide +kernel, by decide +kernel⟩, List.mem_of_getElem? (i := 945) (by decide +kernel), List.mem_of_getElem? (i := 983) (by decide +kernel), List.mem_of_getElem? (i := 984) (by decide +kernel)⟩
theorem lw_p17 : lw_okq (⟨"MergeLineModel", "isTest", "(I)Z"⟩, 6) := ⟨⟨by decide +kernel, by decide +kernel⟩, List.mem_of_getElem? (i := 945) (by decide +kernel), List.mem_of_getElem? (i := 1012) (by decide +kernel), List.mem_of_getElem? (i := 1013) (by decide +kernel)⟩
theorem lw_p18 : lw_okq (⟨"MergeLineModel", "isSo", "(II)Z"⟩, 6) := ⟨⟨by decide +kernel, by decide +kernel⟩, List.mem_of_getElem? (i := 945) (by decide +kernel), List.mem_of_getElem? (i := 1025) (by decide +kernel), List.mem_of_getElem? (i := 1026) (by decide +kernel)⟩
theorem lw_p19 : lw_okq (⟨"MergeLineModel", "givers", "(II)I"⟩, 6) := ⟨⟨by decide +kernel, by decide +kernel⟩, List.mem_of_getElem? (i := 945) (by decide +kernel), List.mem_of_getElem? (i := 1029) (by decide +kernel), List.mem_of_getElem? (i := 1030) (by decide +kernel)⟩
theorem lw_p20 : lw_okq (⟨"MergeLineModel", "newChange", "(I)I"⟩, 6) := ⟨⟨by decide +kernel, by decide +kernel⟩, List.mem_of_getElem? (i := 945) (by decide +kernel), List.mem_of_getElem? (i := 1041) (by decide +kernel), List.mem_of_getElem? (i := 1042) (by decide +kernel)⟩
theorem lw_p21 : lw_okq (⟨"MergeLineModel", "isChange", "(I)Z"⟩, 6) := ⟨⟨by decide +kernel, by decide +kernel⟩, List.mem_of_getElem? (i := 945) (by decide +kernel), List.mem_of_getElem? (i := 1057) (by decide +kernel), List.mem_of_getElem? (i := 1058) (by decide +kernel)⟩
theorem lw_p22 : lw_okq (⟨"MergeLineModel", "hasFile", "(II)Z"⟩, 6) := ⟨⟨by decide +kernel, by decide +kernel⟩, List.mem_of_getElem? (i := 945) (by decide +kernel), List.mem_of_getElem? (i := 1062) (by decide +kernel), List.mem_of_getElem? (i := 1063) (by decide +kernel)⟩
theorem lw_p23 : lw_okq (⟨"MergeLineModel", "markAt", "(II)I"⟩, 6) := ⟨⟨by decide +kernel, by decide +kernel⟩, List.mem_of_getElem? (i := 945) (by decide +kernel), List.mem_of_getElem? (i := 1070) (by decide +kernel), List.mem_of_getElem? (i := 1071) (by decide +kernel)⟩
theorem lw_p24 : lw_okq (⟨"MergeLineModel", "fitsAt", "(IIZ)I"⟩, 6) := ⟨⟨by decide +kernel, by decide +kernel⟩, List.mem_of_getElem? (i := 945) (by decide +kernel), List.mem_of_getElem? (i := 1083) (by decide +kernel), List.mem_of_getElem? (i := 1084) (by decide +kernel)⟩
theorem lw_p25 : lw_okq (⟨"MergeLineModel", "fitsIn", "(II)Z"⟩, 6) := ⟨⟨by decide +kernel, by decide +kernel⟩, List.mem_of_getElem? (i := 945) (by decide +kernel), List.mem_of_getElem? (i := 1095) (by decide +kernel), List.mem_of_getElem? (i := 1096) (by decide +kernel)⟩
theorem lw_p26 : lw_okq (⟨"MergeLineModel", "isTouched", "(II)Z"⟩, 6) := ⟨⟨by decide +kernel, by decide +kernel⟩, List.mem_of_getElem? (i := 945) (by decide +kernel), List.mem_of_getElem? (i := 1103) (by decide +kernel), List.mem_of_getElem? (i := 1104) (by decide +kernel)⟩
theorem lw_p27 : lw_okq (⟨"MergeLineModel", "gives", "(II)Z"⟩, 6) := ⟨⟨by decide +kernel, by decide +kernel⟩, List.mem_of_getElem? (i := 945) (by decide +kernel), List.mem_of_getElem? (i := 1107) (by decide +kernel), List.mem_of_getElem? (i := 1108) (by decide +kernel)⟩
theorem lw_p28 : lw_okq (⟨"MergeLineModel", "out", "(II)V"⟩, 6) := ⟨⟨by decide +kernel, by decide +kernel⟩, List.mem_of_getElem? (i := 945) (by decide +kernel), List.mem_of_getElem? (i := 1120) (by decide +kernel), List.mem_of_getElem? (i := 1121) (by decide +kernel)⟩
theorem lw_p29 : lw_okq (⟨"MergeLineModel", "placeOf", "(I)I"⟩, 6) := ⟨⟨by decide +kernel, by decide +kernel⟩, List.mem_of_getElem? (i := 945) (by decide +kernel), List.mem_of_getElem? (i := 1124) (by decide +kernel), List.mem_of_getElem? (i := 1125) (by decide +kernel)⟩
theorem lw_p30 : lw_okq (⟨"MergeLineModel", "makeBatch", "()Z"⟩, 6) := ⟨⟨by decide +kernel, by decide +kernel⟩, List.mem_of_getElem? (i := 945) (by decide +kernel), List.mem_of_getElem? (i := 1142) (by decide +kernel), List.mem_of_getElem? (i := 1143) (by decide +kernel)⟩
theorem lw_p31 : lw_okq (⟨"MergeLineModel", "firstReady", "(I)I"⟩, 6) := ⟨⟨by decide +kernel, by decide +kernel⟩, List.mem_of_getElem? (i := 945) (by decide +kernel), List.mem_of_getElem? (i := 1146) (by decide +kernel), List.mem_of_getElem? (i := 1147) (by decide +kernel)⟩
def lw_privs_2 : List (MethodName × Nat) := [(⟨"MergeLineModel", "lines", "(II)I"⟩, 6), (⟨"MergeLineModel", "isTest", "(I)Z"⟩, 6), (⟨"MergeLineModel", "isSo", "(II)Z"⟩, 6), (⟨"MergeLineModel", "givers", "(II)I"⟩, 6), (⟨"MergeLineModel", "newChange", "(I)I"⟩, 6), (⟨"MergeLineModel", "isChange", "(I)Z"⟩, 6), (⟨"MergeLineModel", "hasFile", "(II)Z"⟩, 6), (⟨"MergeLineModel", "markAt", "(II)I"⟩, 6), (⟨"MergeLineModel", "fitsAt", "(IIZ)I"⟩, 6), (⟨"MergeLineModel", "fitsIn", "(II)Z"⟩, 6), (⟨"MergeLineModel", "isTouched", "(II)Z"⟩, 6), (⟨"MergeLineModel", "gives", "(II)Z"⟩, 6), (⟨"MergeLineModel", "out", "(II)V"⟩, 6), (⟨"MergeLineModel", "placeOf", "(I)I"⟩, 6), (⟨"MergeLineModel", "makeBatch", "()Z"⟩, 6), (⟨"MergeLineModel", "firstReady", "(I)I"⟩, 6)]
theorem lw_r2 : ∀ q ∈ lw_privs_2, lw_okq q := List.forall_mem_cons.mpr ⟨lw_p16, List.forall_mem_cons.mpr ⟨lw_p17, List.forall_mem_cons.mpr ⟨lw_p18, List.forall_mem_cons.mpr ⟨lw_p19, List.forall_mem_cons.mpr ⟨lw_p20, List.forall_mem_cons.mpr ⟨lw_p21, List.forall_mem_cons.mpr ⟨lw_p22, List.forall_mem_cons.mpr ⟨lw_p23, List.forall_mem_cons.mpr ⟨lw_p24, List.forall_mem_cons.mpr ⟨lw_p25, List.forall_mem_cons.mpr ⟨lw_p26, List.forall_mem_cons.mpr ⟨lw_p27, List.forall_mem_cons.mpr ⟨lw_p28, List.forall_mem_cons.mpr ⟨lw_p29, List.forall_mem_cons.mpr ⟨lw_p30, List.forall_mem_cons.mpr ⟨lw_p31, fun _ h => absurd h List.not_mem_nil⟩⟩⟩⟩⟩⟩⟩⟩⟩⟩⟩⟩⟩⟩⟩⟩
theorem lw_p32 : lw_okq (⟨"MergeLineModel", "isFirst", "(I)Z"⟩, 6) := ⟨⟨by decide +kernel, by decide +kernel⟩, List.mem_of_getElem? (i := 945) (by decide +kernel), List.mem_of_getElem? (i := 1150) (by decide +kernel), List.mem_of_getElem? (i := 1151) (by decide +kernel)⟩
theorem lw_p33 : lw_okq (⟨"MergeLineModel", "isReady", "(I)Z"⟩, 6) := ⟨⟨by decide +kernel, by decide +kernel⟩, List.mem_of_getElem? (i := 945) (by decide +kernel), List.mem_of_getElem? (i := 1154) (by decide +kernel), List.mem_of_getElem? (i := 1155) (by decide +kernel)⟩
theorem lw_p34 : lw_okq (⟨"MergeLineModel", "isFree", "(I)Z"⟩, 6) := ⟨⟨by decide +kernel, by decide +kernel⟩, List.mem_of_getElem? (i := 945) (by decide +kernel), List.mem_of_getElem? (i := 1158) (by decide +kernel), List.mem_of_getElem? (i := 1159) (by decide +kernel)⟩
theorem lw_p35 : lw_okq (⟨"MergeLineModel", "hasKind", "(II)Z"⟩, 6) := ⟨⟨by decide +kernel, by decide +kernel⟩, List.mem_of_getElem? (i := 945) (by decide +kernel), List.mem_of_getElem? (i := 1162) (by decide +kernel), List.mem_of_getElem? (i := 1163) (by decide +kernel)⟩
theorem lw_p36 : lw_okq (⟨"MergeLineModel", "makeAlone", "(I)V"⟩, 6) := ⟨⟨by decide +kernel, by decide +kernel⟩, List.mem_of_getElem? (i := 945) (by decide +kernel), List.mem_of_getElem? (i := 1166) (by decide +kernel), List.mem_of_getElem? (i := 1167) (by decide +kernel)⟩
theorem lw_p37 : lw_okq (⟨"MergeLineModel", "fitsAlone", "(I)Z"⟩, 6) := ⟨⟨by decide +kernel, by decide +kernel⟩, List.mem_of_getElem? (i := 945) (by decide +kernel), List.mem_of_getElem? (i := 1170) (by decide +kernel), List.mem_of_getElem? (i := 1171) (by decide +kernel)⟩
theorem lw_p38 : lw_okq (⟨"MergeLineModel", "copyState", "(II)V"⟩, 6) := ⟨⟨by decide +kernel, by decide +kernel⟩, List.mem_of_getElem? (i := 945) (by decide +kernel), List.mem_of_getElem? (i := 1174) (by decide +kernel), List.mem_of_getElem? (i := 1175) (by decide +kernel)⟩
theorem lw_p39 : lw_okq (⟨"MergeLineModel", "unitComes", "(II)Z"⟩, 6) := ⟨⟨by decide +kernel, by decide +kernel⟩, List.mem_of_getElem? (i := 945) (by decide +kernel), List.mem_of_getElem? (i := 1178) (by decide +kernel), List.mem_of_getElem? (i := 1179) (by decide +kernel)⟩
theorem lw_p40 : lw_okq (⟨"MergeLineModel", "comes", "(II)Z"⟩, 6) := ⟨⟨by decide +kernel, by decide +kernel⟩, List.mem_of_getElem? (i := 945) (by decide +kernel), List.mem_of_getElem? (i := 1182) (by decide +kernel), List.mem_of_getElem? (i := 1183) (by decide +kernel)⟩
theorem lw_p41 : lw_okq (⟨"MergeLineModel", "apply", "(II)V"⟩, 6) := ⟨⟨by decide +kernel, by decide +kernel⟩, List.mem_of_getElem? (i := 945) (by decide +kernel), List.mem_of_getElem? (i := 1186) (by decide +kernel), List.mem_of_getElem? (i := 1187) (by decide +kernel)⟩
theorem lw_p42 : lw_okq (⟨"MergeLineModel", "moveLine", "(IIII)V"⟩, 6) := ⟨⟨by decide +kernel, by decide +kernel⟩, List.mem_of_getElem? (i := 945) (by decide +kernel), List.mem_of_getElem? (i := 1190) (by decide +kernel), List.mem_of_getElem? (i := 1191) (by decide +kernel)⟩
theorem lw_p43 : lw_okq (⟨"MergeLineModel", "newRow", "(I)V"⟩, 6) := ⟨⟨by decide +kernel, by decide +kernel⟩, List.mem_of_getElem? (i := 945) (by decide +kernel), List.mem_of_getElem? (i := 1194) (by decide +kernel), List.mem_of_getElem? (i := 1195) (by decide +kernel)⟩
theorem lw_p44 : lw_okq (⟨"MergeLineModel", "addUnit", "(I)V"⟩, 6) := ⟨⟨by decide +kernel, by decide +kernel⟩, List.mem_of_getElem? (i := 945) (by decide +kernel), List.mem_of_getElem? (i := 1202) (by decide +kernel), List.mem_of_getElem? (i := 1203) (by decide +kernel)⟩
theorem lw_p45 : lw_okq (⟨"MergeLineModel", "unitOut", "(III)V"⟩, 6) := ⟨⟨by decide +kernel, by decide +kernel⟩, List.mem_of_getElem? (i := 945) (by decide +kernel), List.mem_of_getElem? (i := 1207) (by decide +kernel), List.mem_of_getElem? (i := 1208) (by decide +kernel)⟩
theorem lw_p46 : lw_okq (⟨"MergeLineModel", "makeMany", "()V"⟩, 6) := ⟨⟨by decide +kernel, by decide +kernel⟩, List.mem_of_getElem? (i := 945) (by decide +kernel), List.mem_of_getElem? (i := 1211) (by decide +kernel), List.mem_of_getElem? (i := 1212) (by decide +kernel)⟩
theorem lw_p47 : lw_okq (⟨"MergeLineModel", "lookThrough", "(I)V"⟩, 6) := ⟨⟨by decide +kernel, by decide +kernel⟩, List.mem_of_getElem? (i := 945) (by decide +kernel), List.mem_of_getElem? (i := 1215) (by decide +kernel), List.mem_of_getElem? (i := 1216) (by decide +kernel)⟩
def lw_privs_3 : List (MethodName × Nat) := [(⟨"MergeLineModel", "isFirst", "(I)Z"⟩, 6), (⟨"MergeLineModel", "isReady", "(I)Z"⟩, 6), (⟨"MergeLineModel", "isFree", "(I)Z"⟩, 6), (⟨"MergeLineModel", "hasKind", "(II)Z"⟩, 6), (⟨"MergeLineModel", "makeAlone", "(I)V"⟩, 6), (⟨"MergeLineModel", "fitsAlone", "(I)Z"⟩, 6), (⟨"MergeLineModel", "copyState", "(II)V"⟩, 6), (⟨"MergeLineModel", "unitComes", "(II)Z"⟩, 6), (⟨"MergeLineModel", "comes", "(II)Z"⟩, 6), (⟨"MergeLineModel", "apply", "(II)V"⟩, 6), (⟨"MergeLineModel", "moveLine", "(IIII)V"⟩, 6), (⟨"MergeLineModel", "newRow", "(I)V"⟩, 6), (⟨"MergeLineModel", "addUnit", "(I)V"⟩, 6), (⟨"MergeLineModel", "unitOut", "(III)V"⟩, 6), (⟨"MergeLineModel", "makeMany", "()V"⟩, 6), (⟨"MergeLineModel", "lookThrough", "(I)V"⟩, 6)]
theorem lw_r3 : ∀ q ∈ lw_privs_3, lw_okq q := List.forall_mem_cons.mpr ⟨lw_p32, List.forall_mem_cons.mpr ⟨lw_p33, List.forall_mem_cons.mpr ⟨lw_p34, List.forall_mem_cons.mpr ⟨lw_p35, List.forall_mem_cons.mpr ⟨lw_p36, List.forall_mem_cons.mpr ⟨lw_p37, List.forall_mem_cons.mpr ⟨lw_p38, List.forall_mem_cons.mpr ⟨lw_p39, List.forall_mem_cons.mpr ⟨lw_p40, List.forall_mem_cons.mpr ⟨lw_p41, List.forall_mem_cons.mpr ⟨lw_p42, List.forall_mem_cons.mpr ⟨lw_p43, List.forall_mem_cons.mpr ⟨lw_p44, List.forall_mem_cons.mpr ⟨lw_p45, List.forall_mem_cons.mpr ⟨lw_p46, List.forall_mem_cons.mpr ⟨lw_p47, fun _ h => absurd h List.not_mem_nil⟩⟩⟩⟩⟩⟩⟩⟩⟩⟩⟩⟩⟩⟩⟩⟩
theorem lw_p48 : lw_okq (⟨"MergeLineModel", "run", "(I)V"⟩, 6) := ⟨⟨by decide +kernel, by decide +kernel⟩, List.mem_of_getElem? (i := 945) (by decide +kernel), List.mem_of_getElem? (i := 1219) (by decide +kernel), List.mem_of_getElem? (i := 1220) (by decide +kernel)⟩
theorem lw_p49 : lw_okq (⟨"MergeLineModel", "changesOf", "(I)I"⟩, 6) := ⟨⟨by decide +kernel, by decide +kernel⟩, List.mem_of_getElem? (i := 945) (by decide +kernel), List.mem_of_getElem? (i := 1223) (by decide +kernel), List.mem_of_getElem? (i := 1224) (by decide +kernel)⟩
theorem lw_p50 : lw_okq (⟨"MergeLineModel", "isHeld", "(II)Z"⟩, 6) := ⟨⟨by decide +kernel, by decide +kernel⟩, List.mem_of_getElem? (i := 945) (by decide +kernel), List.mem_of_getElem? (i := 1227) (by decide +kernel), List.mem_of_getElem? (i := 1228) (by decide +kernel)⟩
theorem lw_p51 : lw_okq (⟨"MergeLineModel", "cut", "(I)V"⟩, 6) := ⟨⟨by decide +kernel, by decide +kernel⟩, List.mem_of_getElem? (i := 945) (by decide +kernel), List.mem_of_getElem? (i := 1236) (by decide +kernel), List.mem_of_getElem? (i := 1237) (by decide +kernel)⟩
theorem lw_p52 : lw_okq (⟨"MergeLineModel", "isInWork", "(I)Z"⟩, 6) := ⟨⟨by decide +kernel, by decide +kernel⟩, List.mem_of_getElem? (i := 945) (by decide +kernel), List.mem_of_getElem? (i := 1245) (by decide +kernel), List.mem_of_getElem? (i := 1246) (by decide +kernel)⟩
def lw_privs_4 : List (MethodName × Nat) := [(⟨"MergeLineModel", "run", "(I)V"⟩, 6), (⟨"MergeLineModel", "changesOf", "(I)I"⟩, 6), (⟨"MergeLineModel", "isHeld", "(II)Z"⟩, 6), (⟨"MergeLineModel", "cut", "(I)V"⟩, 6), (⟨"MergeLineModel", "isInWork", "(I)Z"⟩, 6)]
theorem lw_r4 : ∀ q ∈ lw_privs_4, lw_okq q := List.forall_mem_cons.mpr ⟨lw_p48, List.forall_mem_cons.mpr ⟨lw_p49, List.forall_mem_cons.mpr ⟨lw_p50, List.forall_mem_cons.mpr ⟨lw_p51, List.forall_mem_cons.mpr ⟨lw_p52, fun _ h => absurd h List.not_mem_nil⟩⟩⟩⟩⟩
def lw_privs : List (MethodName × Nat) := lw_privs_1 ++ (lw_privs_2 ++ (lw_privs_3 ++ (lw_privs_4)))
def lw_tbl : List Cond := k2_sels lw_privs ++ tables_1
theorem lw_privs_ok : ∀ q ∈ lw_privs, lw_okq q := by
  show ∀ q ∈ lw_privs_1 ++ (lw_privs_2 ++ (lw_privs_3 ++ (lw_privs_4))), lw_okq q
  exact List.forall_mem_append.mpr ⟨lw_r1, List.forall_mem_append.mpr ⟨lw_r2, List.forall_mem_append.mpr ⟨lw_r3, lw_r4⟩⟩⟩
end
section
def RX0 : String := "MergeLine$Book"
def TX0 : u_T := fun k => match k with
  | 0 => ("MergeLine$Book", "marks", "[I", true)
  | 1 => ("MergeLine$Book", "lengths", "[I", true)
  | 2 => ("MergeLine$Book", "values", "[I", true)
  | 3 => ("MergeLine$Book", "latest", "I", false)
  | _ => ("MergeLine$Book", "made", "I", false)
def tyX0 : Nat → FieldType := fun k => match k with
  | 0 => .array .int
  | 1 => .array .int
  | 2 => .array .int
  | 3 => .int
  | _ => .int
abbrev wsX00 : List Cond := u_ws RX0 TX0 5
theorem nmX0 : ∀ a, a < 5 → ∀ b, b < 5 → a ≠ b → (TX0 a).2.1 ≠ (TX0 b).2.1 := by decide +kernel
theorem tyX0_ok : ∀ k, k < 5 → parseFieldDescriptor (TX0 k).2.2.1 = some (tyX0 k) := by decide +kernel
def RX1 : String := "MergeLine$Cells"
def TX1 : u_T := fun k => match k with
  | _ => ("MergeLine$Cells", "row", "[I", true)
def tyX1 : Nat → FieldType := fun k => match k with
  | _ => .array .int
abbrev wsX10 : List Cond := u_ws RX1 TX1 1
theorem nmX1 : ∀ a, a < 1 → ∀ b, b < 1 → a ≠ b → (TX1 a).2.1 ≠ (TX1 b).2.1 := by decide +kernel
theorem tyX1_ok : ∀ k, k < 1 → parseFieldDescriptor (TX1 k).2.2.1 = some (tyX1 k) := by decide +kernel
def RX2 : String := "MergeLine$Changes"
def TX2 : u_T := fun k => match k with
  | 0 => ("MergeLine$Changes", "kinds", "LMergeLine$Cells;", true)
  | 1 => ("MergeLine$Changes", "stands", "LMergeLine$Cells;", true)
  | 2 => ("MergeLine$Changes", "bases", "LMergeLine$Cells;", true)
  | 3 => ("MergeLine$Changes", "takenStates", "LMergeLine$Cells;", true)
  | 4 => ("MergeLine$Changes", "failures", "LMergeLine$Cells;", true)
  | 5 => ("MergeLine$Changes", "partners", "LMergeLine$Cells;", true)
  | 6 => ("MergeLine$Changes", "hands", "LMergeLine$Cells;", true)
  | 7 => ("MergeLine$Changes", "editCounts", "LMergeLine$Cells;", true)
  | 8 => ("MergeLine$Changes", "edits", "LMergeLine$Edits;", true)
  | _ => ("MergeLine$Changes", "made", "I", false)
def tyX2 : Nat → FieldType := fun k => match k with
  | 0 => .object "MergeLine$Cells"
  | 1 => .object "MergeLine$Cells"
  | 2 => .object "MergeLine$Cells"
  | 3 => .object "MergeLine$Cells"
  | 4 => .object "MergeLine$Cells"
  | 5 => .object "MergeLine$Cells"
  | 6 => .object "MergeLine$Cells"
  | 7 => .object "MergeLine$Cells"
  | 8 => .object "MergeLine$Edits"
  | _ => .int
abbrev wsX20 : List Cond := u_ws RX2 TX2 10
theorem nmX2 : ∀ a, a < 10 → ∀ b, b < 10 → a ≠ b → (TX2 a).2.1 ≠ (TX2 b).2.1 := by decide +kernel
theorem tyX2_ok : ∀ k, k < 10 → parseFieldDescriptor (TX2 k).2.2.1 = some (tyX2 k) := by decide +kernel
def RX3 : String := "MergeLine$Edits"
def TX3 : u_T := fun k => match k with
  | 0 => ("MergeLine$Edits", "files", "LMergeLine$Cells;", true)
  | 1 => ("MergeLine$Edits", "aheads", "LMergeLine$Cells;", true)
  | 2 => ("MergeLine$Edits", "behinds", "LMergeLine$Cells;", true)
  | 3 => ("MergeLine$Edits", "takes", "LMergeLine$Cells;", true)
  | 4 => ("MergeLine$Edits", "puts", "LMergeLine$Cells;", true)
  | 5 => ("MergeLine$Edits", "taken", "LMergeLine$Cells;", true)
  | _ => ("MergeLine$Edits", "put", "LMergeLine$Cells;", true)
def tyX3 : Nat → FieldType := fun k => match k with
  | 0 => .object "MergeLine$Cells"
  | 1 => .object "MergeLine$Cells"
  | 2 => .object "MergeLine$Cells"
  | 3 => .object "MergeLine$Cells"
  | 4 => .object "MergeLine$Cells"
  | 5 => .object "MergeLine$Cells"
  | _ => .object "MergeLine$Cells"
abbrev wsX30 : List Cond := u_ws RX3 TX3 7
theorem nmX3 : ∀ a, a < 7 → ∀ b, b < 7 → a ≠ b → (TX3 a).2.1 ≠ (TX3 b).2.1 := by decide +kernel
theorem tyX3_ok : ∀ k, k < 7 → parseFieldDescriptor (TX3 k).2.2.1 = some (tyX3 k) := by decide +kernel
def RX4 : String := "MergeLine$Hall"
def TX4 : u_T := fun k => match k with
  | 0 => ("MergeLine$Hall", "book", "LMergeLine$Book;", true)
  | 1 => ("MergeLine$Hall", "tests", "LMergeLine$Tests;", true)
  | 2 => ("MergeLine$Hall", "changes", "LMergeLine$Changes;", true)
  | 3 => ("MergeLine$Hall", "lane", "LMergeLine$Lane;", true)
  | 4 => ("MergeLine$Hall", "pile", "LMergeLine$Pile;", true)
  | 5 => ("MergeLine$Hall", "ledger", "LMergeLine$Ledger;", true)
  | _ => ("MergeLine$Hall", "limit", "I", false)
def tyX4 : Nat → FieldType := fun k => match k with
  | 0 => .object "MergeLine$Book"
  | 1 => .object "MergeLine$Tests"
  | 2 => .object "MergeLine$Changes"
  | 3 => .object "MergeLine$Lane"
  | 4 => .object "MergeLine$Pile"
  | 5 => .object "MergeLine$Ledger"
  | _ => .int
abbrev wsX40 : List Cond := u_ws RX4 TX4 7
theorem nmX4 : ∀ a, a < 7 → ∀ b, b < 7 → a ≠ b → (TX4 a).2.1 ≠ (TX4 b).2.1 := by decide +kernel
theorem tyX4_ok : ∀ k, k < 7 → parseFieldDescriptor (TX4 k).2.2.1 = some (tyX4 k) := by decide +kernel
def RX5 : String := "MergeLine$Lane"
def TX5 : u_T := fun k => match k with
  | 0 => ("MergeLine$Lane", "order", "LMergeLine$Cells;", true)
  | _ => ("MergeLine$Lane", "length", "I", false)
def tyX5 : Nat → FieldType := fun k => match k with
  | 0 => .object "MergeLine$Cells"
  | _ => .int
abbrev wsX50 : List Cond := u_ws RX5 TX5 2
theorem nmX5 : ∀ a, a < 2 → ∀ b, b < 2 → a ≠ b → (TX5 a).2.1 ≠ (TX5 b).2.1 := by decide +kernel
theorem tyX5_ok : ∀ k, k < 2 → parseFieldDescriptor (TX5 k).2.2.1 = some (tyX5 k) := by decide +kernel
def RX6 : String := "MergeLine$Ledger"
def TX6 : u_T := fun k => match k with
  | 0 => ("MergeLine$Ledger", "told", "LMergeLine$Cells;", true)
  | 1 => ("MergeLine$Ledger", "real", "LMergeLine$Cells;", true)
  | _ => ("MergeLine$Ledger", "runs", "I", false)
def tyX6 : Nat → FieldType := fun k => match k with
  | 0 => .object "MergeLine$Cells"
  | 1 => .object "MergeLine$Cells"
  | _ => .int
abbrev wsX60 : List Cond := u_ws RX6 TX6 3
theorem nmX6 : ∀ a, a < 3 → ∀ b, b < 3 → a ≠ b → (TX6 a).2.1 ≠ (TX6 b).2.1 := by decide +kernel
theorem tyX6_ok : ∀ k, k < 3 → parseFieldDescriptor (TX6 k).2.2.1 = some (tyX6 k) := by decide +kernel
def RX7 : String := "MergeLine$Pile"
def TX7 : u_T := fun k => match k with
  | 0 => ("MergeLine$Pile", "heads", "LMergeLine$Cells;", true)
  | 1 => ("MergeLine$Pile", "tails", "LMergeLine$Cells;", true)
  | 2 => ("MergeLine$Pile", "lengths", "LMergeLine$Cells;", true)
  | 3 => ("MergeLine$Pile", "dooms", "LMergeLine$Cells;", true)
  | 4 => ("MergeLine$Pile", "wholes", "LMergeLine$Cells;", true)
  | 5 => ("MergeLine$Pile", "failures", "LMergeLine$Cells;", true)
  | 6 => ("MergeLine$Pile", "units", "I", false)
  | _ => ("MergeLine$Pile", "rows", "I", false)
def tyX7 : Nat → FieldType := fun k => match k with
  | 0 => .object "MergeLine$Cells"
  | 1 => .object "MergeLine$Cells"
  | 2 => .object "MergeLine$Cells"
  | 3 => .object "MergeLine$Cells"
  | 4 => .object "MergeLine$Cells"
  | 5 => .object "MergeLine$Cells"
  | 6 => .int
  | _ => .int
abbrev wsX70 : List Cond := u_ws RX7 TX7 8
theorem nmX7 : ∀ a, a < 8 → ∀ b, b < 8 → a ≠ b → (TX7 a).2.1 ≠ (TX7 b).2.1 := by decide +kernel
theorem tyX7_ok : ∀ k, k < 8 → parseFieldDescriptor (TX7 k).2.2.1 = some (tyX7 k) := by decide +kernel
def RX8 : String := "MergeLine$Tests"
def TX8 : u_T := fun k => match k with
  | 0 => ("MergeLine$Tests", "kinds", "LMergeLine$Cells;", true)
  | 1 => ("MergeLine$Tests", "firsts", "LMergeLine$Cells;", true)
  | 2 => ("MergeLine$Tests", "seconds", "LMergeLine$Cells;", true)
  | 3 => ("MergeLine$Tests", "thirds", "LMergeLine$Cells;", true)
  | 4 => ("MergeLine$Tests", "chances", "LMergeLine$Cells;", true)
  | 5 => ("MergeLine$Tests", "made", "I", false)
  | 6 => ("MergeLine$Tests", "most", "I", false)
  | 7 => ("MergeLine$Tests", "needed", "I", false)
  | 8 => ("MergeLine$Tests", "done", "I", false)
  | _ => ("MergeLine$Tests", "z", "I", false)
def tyX8 : Nat → FieldType := fun k => match k with
  | 0 => .object "MergeLine$Cells"
  | 1 => .object "MergeLine$Cells"
  | 2 => .object "MergeLine$Cells"
  | 3 => .object "MergeLine$Cells"
  | 4 => .object "MergeLine$Cells"
  | 5 => .int
  | 6 => .int
  | 7 => .int
  | 8 => .int
  | _ => .int
abbrev wsX80 : List Cond := u_ws RX8 TX8 10
theorem nmX8 : ∀ a, a < 10 → ∀ b, b < 10 → a ≠ b → (TX8 a).2.1 ≠ (TX8 b).2.1 := by decide +kernel
theorem tyX8_ok : ∀ k, k < 10 → parseFieldDescriptor (TX8 k).2.2.1 = some (tyX8 k) := by decide +kernel
def RX9 : String := "MergeLine"
def TX9 : u_T := fun k => match k with
  | 0 => ("MergeLine", "now", "LMergeLine$Hall;", true)
  | 1 => ("MergeLine", "old", "LMergeLine$Hall;", true)
  | _ => ("MergeLine", "isKept", "Z", false)
def tyX9 : Nat → FieldType := fun k => match k with
  | 0 => .object "MergeLine$Hall"
  | 1 => .object "MergeLine$Hall"
  | _ => .boolean
abbrev wsX90 : List Cond := u_ws RX9 TX9 3
theorem nmX9 : ∀ a, a < 3 → ∀ b, b < 3 → a ≠ b → (TX9 a).2.1 ≠ (TX9 b).2.1 := by decide +kernel
theorem tyX9_ok : ∀ k, k < 3 → parseFieldDescriptor (TX9 k).2.2.1 = some (tyX9 k) := by decide +kernel
def RX10 : String := "MergeLineModel"
def TX10 : u_T := fun k => match k with
  | 0 => ("MergeLineModel", "m", "[I", true)
  | 1 => ("MergeLineModel", "kept", "[I", true)
  | 2 => ("MergeLineModel", "isKept", "Z", false)
  | 3 => ("MergeLineModel", "thrown", "I", false)
  | 4 => ("MergeLineModel", "batch", "[I", true)
  | _ => ("MergeLineModel", "row", "[I", true)
def tyX10 : Nat → FieldType := fun k => match k with
  | 0 => .array .int
  | 1 => .array .int
  | 2 => .boolean
  | 3 => .int
  | 4 => .array .int
  | _ => .array .int
abbrev wsX100 : List Cond := u_ws RX10 TX10 6
theorem nmX10 : ∀ a, a < 6 → ∀ b, b < 6 → a ≠ b → (TX10 a).2.1 ≠ (TX10 b).2.1 := by decide +kernel
theorem tyX10_ok : ∀ k, k < 6 → parseFieldDescriptor (TX10 k).2.2.1 = some (tyX10 k) := by decide +kernel
def RL : String := "MergeLineLaw"
abbrev cX0_init : ByteArray := prog_2_method_1_code
abbrev cX0_latest : ByteArray := prog_2_method_2_code
abbrev cX0_marksMade : ByteArray := prog_2_method_3_code
abbrev cX0_newLine : ByteArray := prog_2_method_4_code
abbrev cX0_append : ByteArray := prog_2_method_5_code
abbrev cX0_lengthOf : ByteArray := prog_2_method_6_code
abbrev cX0_linesIn : ByteArray := prog_2_method_7_code
abbrev cX0_markAt : ByteArray := prog_2_method_8_code
abbrev cX0_valueOf : ByteArray := prog_2_method_9_code
abbrev cX0_nameGivenBy : ByteArray := prog_2_method_10_code
abbrev cX0_nameAskedBy : ByteArray := prog_2_method_11_code
abbrev cX0_linesGiving : ByteArray := prog_2_method_12_code
abbrev cX0_setMark : ByteArray := prog_2_method_13_code
abbrev cX0_makeRoom : ByteArray := prog_2_method_14_code
abbrev cX0_copySlot : ByteArray := prog_2_method_15_code
abbrev cX0_takeTrial : ByteArray := prog_2_method_16_code
abbrev cX0_takeOver : ByteArray := prog_2_method_17_code
abbrev cX1_init : ByteArray := prog_3_method_1_code
abbrev cX1_get : ByteArray := prog_3_method_2_code
abbrev cX1_set : ByteArray := prog_3_method_3_code
abbrev cX1_move : ByteArray := prog_3_method_4_code
abbrev cX1_takeOver : ByteArray := prog_3_method_5_code
abbrev cX2_init : ByteArray := prog_4_method_1_code
abbrev cX2_made : ByteArray := prog_4_method_2_code
abbrev cX2_begin : ByteArray := prog_4_method_3_code
abbrev cX2_finish : ByteArray := prog_4_method_4_code
abbrev cX2_kindOf : ByteArray := prog_4_method_5_code
abbrev cX2_standOf : ByteArray := prog_4_method_6_code
abbrev cX2_setStand : ByteArray := prog_4_method_7_code
abbrev cX2_takenWith : ByteArray := prog_4_method_8_code
abbrev cX2_setTakenWith : ByteArray := prog_4_method_9_code
abbrev cX2_failedBy : ByteArray := prog_4_method_10_code
abbrev cX2_setFailedBy : ByteArray := prog_4_method_11_code
abbrev cX2_editsOf : ByteArray := prog_4_method_12_code
abbrev cX2_partnerOf : ByteArray := prog_4_method_13_code
abbrev cX2_canPair : ByteArray := prog_4_method_14_code
abbrev cX2_join : ByteArray := prog_4_method_15_code
abbrev cX2_swapHand : ByteArray := prog_4_method_16_code
abbrev cX2_isOpen : ByteArray := prog_4_method_17_code
abbrev cX2_hasFile : ByteArray := prog_4_method_18_code
abbrev cX2_addEdit : ByteArray := prog_4_method_19_code
abbrev cX2_takeLines : ByteArray := prog_4_method_20_code
abbrev cX2_putLines : ByteArray := prog_4_method_21_code
abbrev cX2_turnEdits : ByteArray := prog_4_method_22_code
abbrev cX2_isFree : ByteArray := prog_4_method_23_code
abbrev cX2_isUnitOf : ByteArray := prog_4_method_24_code
abbrev cX2_fitsOn : ByteArray := prog_4_method_25_code
abbrev cX2_comesOn : ByteArray := prog_4_method_26_code
abbrev cX2_meets : ByteArray := prog_4_method_27_code
abbrev cX2_takeOver : ByteArray := prog_4_method_28_code
abbrev cX3_init : ByteArray := prog_5_method_1_code
abbrev cX3_begin : ByteArray := prog_5_method_2_code
abbrev cX3_fileOf : ByteArray := prog_5_method_3_code
abbrev cX3_takeLines : ByteArray := prog_5_method_4_code
abbrev cX3_putLines : ByteArray := prog_5_method_5_code
abbrev cX3_turn : ByteArray := prog_5_method_6_code
abbrev cX3_placeOf : ByteArray := prog_5_method_7_code
abbrev cX3_doAt : ByteArray := prog_5_method_8_code
abbrev cX3_gives : ByteArray := prog_5_method_9_code
abbrev cX3_isGiven : ByteArray := prog_5_method_10_code
abbrev cX3_takeOver : ByteArray := prog_5_method_11_code
abbrev cX4_init : ByteArray := prog_6_method_1_code
abbrev cX4_swapLimit : ByteArray := prog_6_method_2_code
abbrev cX4_standing : ByteArray := prog_6_method_3_code
abbrev cX4_takeOut : ByteArray := prog_6_method_4_code
abbrev cX4_isReady : ByteArray := prog_6_method_5_code
abbrev cX4_isReadyAt : ByteArray := prog_6_method_6_code
abbrev cX4_findsWork : ByteArray := prog_6_method_7_code
abbrev cX4_findLone : ByteArray := prog_6_method_8_code
abbrev cX4_gatherLone : ByteArray := prog_6_method_9_code
abbrev cX4_gather : ByteArray := prog_6_method_10_code
abbrev cX4_unitComes : ByteArray := prog_6_method_11_code
abbrev cX4_sendBack : ByteArray := prog_6_method_12_code
abbrev cX4_trimTop : ByteArray := prog_6_method_13_code
abbrev cX4_isTopToRun : ByteArray := prog_6_method_14_code
abbrev cX4_runTop : ByteArray := prog_6_method_15_code
abbrev cX4_isTouchedByTop : ByteArray := prog_6_method_16_code
abbrev cX4_takeTop : ByteArray := prog_6_method_17_code
abbrev cX4_settleTop : ByteArray := prog_6_method_18_code
abbrev cX4_failTop : ByteArray := prog_6_method_19_code
abbrev cX4_takeOver : ByteArray := prog_6_method_20_code
abbrev cX5_init : ByteArray := prog_7_method_1_code
abbrev cX5_length : ByteArray := prog_7_method_2_code
abbrev cX5_add : ByteArray := prog_7_method_3_code
abbrev cX5_changeAt : ByteArray := prog_7_method_4_code
abbrev cX5_placeOf : ByteArray := prog_7_method_5_code
abbrev cX5_drop : ByteArray := prog_7_method_6_code
abbrev cX5_takeOver : ByteArray := prog_7_method_7_code
abbrev cX6_init : ByteArray := prog_8_method_1_code
abbrev cX6_runs : ByteArray := prog_8_method_2_code
abbrev cX6_write : ByteArray := prog_8_method_3_code
abbrev cX6_setFact : ByteArray := prog_8_method_4_code
abbrev cX6_sumOf : ByteArray := prog_8_method_5_code
abbrev cX6_tell : ByteArray := prog_8_method_6_code
abbrev cX6_twist : ByteArray := prog_8_method_7_code
abbrev cX6_firstWrong : ByteArray := prog_8_method_8_code
abbrev cX6_takeOver : ByteArray := prog_8_method_9_code
abbrev cX7_init : ByteArray := prog_9_method_1_code
abbrev cX7_rows : ByteArray := prog_9_method_2_code
abbrev cX7_units : ByteArray := prog_9_method_3_code
abbrev cX7_headAt : ByteArray := prog_9_method_4_code
abbrev cX7_topLength : ByteArray := prog_9_method_5_code
abbrev cX7_topFailure : ByteArray := prog_9_method_6_code
abbrev cX7_isTopDoomed : ByteArray := prog_9_method_7_code
abbrev cX7_changeCount : ByteArray := prog_9_method_8_code
abbrev cX7_topChangeCount : ByteArray := prog_9_method_9_code
abbrev cX7_changesAhead : ByteArray := prog_9_method_10_code
abbrev cX7_changeAt : ByteArray := prog_9_method_11_code
abbrev cX7_holdsChange : ByteArray := prog_9_method_12_code
abbrev cX7_add : ByteArray := prog_9_method_13_code
abbrev cX7_push : ByteArray := prog_9_method_14_code
abbrev cX7_dropUnit : ByteArray := prog_9_method_15_code
abbrev cX7_dropUnits : ByteArray := prog_9_method_16_code
abbrev cX7_dropTop : ByteArray := prog_9_method_17_code
abbrev cX7_takeTop : ByteArray := prog_9_method_18_code
abbrev cX7_doomTop : ByteArray := prog_9_method_19_code
abbrev cX7_halveTop : ByteArray := prog_9_method_20_code
abbrev cX7_takeOver : ByteArray := prog_9_method_21_code
abbrev cX8_init : ByteArray := prog_10_method_1_code
abbrev cX8_made : ByteArray := prog_10_method_2_code
abbrev cX8_triesDone : ByteArray := prog_10_method_3_code
abbrev cX8_kindOf : ByteArray := prog_10_method_4_code
abbrev cX8_subjectOf : ByteArray := prog_10_method_5_code
abbrev cX8_add : ByteArray := prog_10_method_6_code
abbrev cX8_setOdds : ByteArray := prog_10_method_7_code
abbrev cX8_setTries : ByteArray := prog_10_method_8_code
abbrev cX8_passes : ByteArray := prog_10_method_9_code
abbrev cX8_standsOn : ByteArray := prog_10_method_10_code
abbrev cX8_sumOf : ByteArray := prog_10_method_11_code
abbrev cX8_isAllKnown : ByteArray := prog_10_method_12_code
abbrev cX8_isRising : ByteArray := prog_10_method_13_code
abbrev cX8_takeOver : ByteArray := prog_10_method_14_code
abbrev cX9_init : ByteArray := prog_1_method_1_code
abbrev cX9_line : ByteArray := prog_1_method_2_code
abbrev cX9_test : ByteArray := prog_1_method_3_code
abbrev cX9_odds : ByteArray := prog_1_method_4_code
abbrev cX9_tries : ByteArray := prog_1_method_5_code
abbrev cX9_holds : ByteArray := prog_1_method_6_code
abbrev cX9_change : ByteArray := prog_1_method_7_code
abbrev cX9_edit : ByteArray := prog_1_method_8_code
abbrev cX9_revert : ByteArray := prog_1_method_9_code
abbrev cX9_pair : ByteArray := prog_1_method_10_code
abbrev cX9_fits : ByteArray := prog_1_method_11_code
abbrev cX9_touches : ByteArray := prog_1_method_12_code
abbrev cX9_queue : ByteArray := prog_1_method_13_code
abbrev cX9_leave : ByteArray := prog_1_method_14_code
abbrev cX9_hand : ByteArray := prog_1_method_15_code
abbrev cX9_size : ByteArray := prog_1_method_16_code
abbrev cX9_go : ByteArray := prog_1_method_17_code
abbrev cX9_about : ByteArray := prog_1_method_18_code
abbrev cX9_inLine : ByteArray := prog_1_method_19_code
abbrev cX9_inWork : ByteArray := prog_1_method_20_code
abbrev cX9_at : ByteArray := prog_1_method_21_code
abbrev cX9_log : ByteArray := prog_1_method_22_code
abbrev cX9_alter : ByteArray := prog_1_method_23_code
abbrev cX9_check : ByteArray := prog_1_method_24_code
abbrev cX9_keep : ByteArray := prog_1_method_25_code
abbrev cX9_goBack : ByteArray := prog_1_method_26_code
abbrev cX9_count : ByteArray := prog_1_method_27_code
abbrev cX9_isIn : ByteArray := prog_1_method_28_code
abbrev cX9_asNumber : ByteArray := prog_1_method_29_code
abbrev cX9_isChange : ByteArray := prog_1_method_30_code
abbrev cX9_isTakenState : ByteArray := prog_1_method_31_code
abbrev cX9_isTestAsTold : ByteArray := prog_1_method_32_code
abbrev cX10_in : ByteArray := prog_12_method_2_code
abbrev cX10_init : ByteArray := prog_12_method_3_code
abbrev cX10_lines : ByteArray := prog_12_method_4_code
abbrev cX10_cell : ByteArray := prog_12_method_5_code
abbrev cX10_copyState : ByteArray := prog_12_method_6_code
abbrev cX10_isFile : ByteArray := prog_12_method_7_code
abbrev cX10_line : ByteArray := prog_12_method_8_code
abbrev cX10_at : ByteArray := prog_12_method_9_code
abbrev cX10_test : ByteArray := prog_12_method_10_code
abbrev cX10_isTest : ByteArray := prog_12_method_11_code
abbrev cX10_odds : ByteArray := prog_12_method_12_code
abbrev cX10_tries : ByteArray := prog_12_method_13_code
abbrev cX10_name : ByteArray := prog_12_method_14_code
abbrev cX10_givers : ByteArray := prog_12_method_15_code
abbrev cX10_isSo : ByteArray := prog_12_method_16_code
abbrev cX10_holds : ByteArray := prog_12_method_17_code
abbrev cX10_isHeld : ByteArray := prog_12_method_18_code
abbrev cX10_isChange : ByteArray := prog_12_method_19_code
abbrev cX10_newChange : ByteArray := prog_12_method_20_code
abbrev cX10_change : ByteArray := prog_12_method_21_code
abbrev cX10_hasFile : ByteArray := prog_12_method_22_code
abbrev cX10_markAt : ByteArray := prog_12_method_23_code
abbrev cX10_edit : ByteArray := prog_12_method_24_code
abbrev cX10_fitsAt : ByteArray := prog_12_method_25_code
abbrev cX10_fitsIn : ByteArray := prog_12_method_26_code
abbrev cX10_apply : ByteArray := prog_12_method_27_code
abbrev cX10_moveLine : ByteArray := prog_12_method_28_code
abbrev cX10_comes : ByteArray := prog_12_method_29_code
abbrev cX10_revert : ByteArray := prog_12_method_30_code
abbrev cX10_pair : ByteArray := prog_12_method_31_code
abbrev cX10_fits : ByteArray := prog_12_method_32_code
abbrev cX10_gives : ByteArray := prog_12_method_33_code
abbrev cX10_isTouched : ByteArray := prog_12_method_34_code
abbrev cX10_touches : ByteArray := prog_12_method_35_code
abbrev cX10_placeOf : ByteArray := prog_12_method_36_code
abbrev cX10_queue : ByteArray := prog_12_method_37_code
abbrev cX10_out : ByteArray := prog_12_method_38_code
abbrev cX10_leave : ByteArray := prog_12_method_39_code
abbrev cX10_hand : ByteArray := prog_12_method_40_code
abbrev cX10_size : ByteArray := prog_12_method_41_code
abbrev cX10_isFree : ByteArray := prog_12_method_42_code
abbrev cX10_isReady : ByteArray := prog_12_method_43_code
abbrev cX10_isFirst : ByteArray := prog_12_method_44_code
abbrev cX10_hasKind : ByteArray := prog_12_method_45_code
abbrev cX10_unitComes : ByteArray := prog_12_method_46_code
abbrev cX10_fitsAlone : ByteArray := prog_12_method_47_code
abbrev cX10_unitOut : ByteArray := prog_12_method_48_code
abbrev cX10_firstReady : ByteArray := prog_12_method_49_code
abbrev cX10_newRow : ByteArray := prog_12_method_50_code
abbrev cX10_addUnit : ByteArray := prog_12_method_51_code
abbrev cX10_makeAlone : ByteArray := prog_12_method_52_code
abbrev cX10_makeMany : ByteArray := prog_12_method_53_code
abbrev cX10_makeBatch : ByteArray := prog_12_method_54_code
abbrev cX10_lookThrough : ByteArray := prog_12_method_55_code
abbrev cX10_cut : ByteArray := prog_12_method_56_code
abbrev cX10_changesOf : ByteArray := prog_12_method_57_code
abbrev cX10_run : ByteArray := prog_12_method_58_code
abbrev cX10_go : ByteArray := prog_12_method_59_code
abbrev cX10_isInWork : ByteArray := prog_12_method_60_code
abbrev cX10_about : ByteArray := prog_12_method_61_code
abbrev cX10_inLine : ByteArray := prog_12_method_62_code
abbrev cX10_inWork : ByteArray := prog_12_method_63_code
abbrev cX10_log : ByteArray := prog_12_method_64_code
abbrev cX10_alter : ByteArray := prog_12_method_65_code
abbrev cX10_check : ByteArray := prog_12_method_66_code
abbrev cX10_keep : ByteArray := prog_12_method_67_code
abbrev cX10_goBack : ByteArray := prog_12_method_68_code
abbrev cX10_count : ByteArray := prog_12_method_69_code
abbrev cL_cell : ByteArray := method_2_code
abbrev cL_law : ByteArray := code
def yX0_init : MethodName := ⟨RX0, "<init>", "()V"⟩
def yX0_latest : MethodName := ⟨RX0, "latest", "()I"⟩
def yX0_marksMade : MethodName := ⟨RX0, "marksMade", "()I"⟩
def yX0_newLine : MethodName := ⟨RX0, "newLine", "(I)I"⟩
def yX0_append : MethodName := ⟨RX0, "append", "(II)V"⟩
def yX0_lengthOf : MethodName := ⟨RX0, "lengthOf", "(II)I"⟩
def yX0_linesIn : MethodName := ⟨RX0, "linesIn", "(I)I"⟩
def yX0_markAt : MethodName := ⟨RX0, "markAt", "(III)I"⟩
def yX0_valueOf : MethodName := ⟨RX0, "valueOf", "(I)I"⟩
def yX0_nameGivenBy : MethodName := ⟨RX0, "nameGivenBy", "(I)I"⟩
def yX0_nameAskedBy : MethodName := ⟨RX0, "nameAskedBy", "(I)I"⟩
def yX0_linesGiving : MethodName := ⟨RX0, "linesGiving", "(II)I"⟩
def yX0_setMark : MethodName := ⟨RX0, "setMark", "(IIII)V"⟩
def yX0_makeRoom : MethodName := ⟨RX0, "makeRoom", "(IIIII)V"⟩
def yX0_copySlot : MethodName := ⟨RX0, "copySlot", "(II)V"⟩
def yX0_takeTrial : MethodName := ⟨RX0, "takeTrial", "()V"⟩
def yX0_takeOver : MethodName := ⟨RX0, "takeOver", "(LMergeLine$Book;)V"⟩
def yX1_init : MethodName := ⟨RX1, "<init>", "(I)V"⟩
def yX1_get : MethodName := ⟨RX1, "get", "(I)I"⟩
def yX1_set : MethodName := ⟨RX1, "set", "(II)V"⟩
def yX1_move : MethodName := ⟨RX1, "move", "(III)V"⟩
def yX1_takeOver : MethodName := ⟨RX1, "takeOver", "(LMergeLine$Cells;)V"⟩
def yX2_init : MethodName := ⟨RX2, "<init>", "()V"⟩
def yX2_made : MethodName := ⟨RX2, "made", "()I"⟩
def yX2_begin : MethodName := ⟨RX2, "begin", "(II)I"⟩
def yX2_finish : MethodName := ⟨RX2, "finish", "()I"⟩
def yX2_kindOf : MethodName := ⟨RX2, "kindOf", "(I)I"⟩
def yX2_standOf : MethodName := ⟨RX2, "standOf", "(I)I"⟩
def yX2_setStand : MethodName := ⟨RX2, "setStand", "(II)V"⟩
def yX2_takenWith : MethodName := ⟨RX2, "takenWith", "(I)I"⟩
def yX2_setTakenWith : MethodName := ⟨RX2, "setTakenWith", "(II)V"⟩
def yX2_failedBy : MethodName := ⟨RX2, "failedBy", "(I)I"⟩
def yX2_setFailedBy : MethodName := ⟨RX2, "setFailedBy", "(II)V"⟩
def yX2_editsOf : MethodName := ⟨RX2, "editsOf", "(I)I"⟩
def yX2_partnerOf : MethodName := ⟨RX2, "partnerOf", "(I)I"⟩
def yX2_canPair : MethodName := ⟨RX2, "canPair", "(I)Z"⟩
def yX2_join : MethodName := ⟨RX2, "join", "(II)V"⟩
def yX2_swapHand : MethodName := ⟨RX2, "swapHand", "(II)I"⟩
def yX2_isOpen : MethodName := ⟨RX2, "isOpen", "(II)Z"⟩
def yX2_hasFile : MethodName := ⟨RX2, "hasFile", "(II)Z"⟩
def yX2_addEdit : MethodName := ⟨RX2, "addEdit", "(IIII)I"⟩
def yX2_takeLines : MethodName := ⟨RX2, "takeLines", "(ILMergeLine$Book;I)V"⟩
def yX2_putLines : MethodName := ⟨RX2, "putLines", "(ILMergeLine$Book;I)V"⟩
def yX2_turnEdits : MethodName := ⟨RX2, "turnEdits", "(II)V"⟩
def yX2_isFree : MethodName := ⟨RX2, "isFree", "(I)Z"⟩
def yX2_isUnitOf : MethodName := ⟨RX2, "isUnitOf", "(II)Z"⟩
def yX2_fitsOn : MethodName := ⟨RX2, "fitsOn", "(ILMergeLine$Book;I)Z"⟩
def yX2_comesOn : MethodName := ⟨RX2, "comesOn", "(ILMergeLine$Book;I)Z"⟩
def yX2_meets : MethodName := ⟨RX2, "meets", "(IIILMergeLine$Book;)Z"⟩
def yX2_takeOver : MethodName := ⟨RX2, "takeOver", "(LMergeLine$Changes;)V"⟩
def yX3_init : MethodName := ⟨RX3, "<init>", "()V"⟩
def yX3_begin : MethodName := ⟨RX3, "begin", "(IIII)V"⟩
def yX3_fileOf : MethodName := ⟨RX3, "fileOf", "(I)I"⟩
def yX3_takeLines : MethodName := ⟨RX3, "takeLines", "(ILMergeLine$Book;I)V"⟩
def yX3_putLines : MethodName := ⟨RX3, "putLines", "(ILMergeLine$Book;I)V"⟩
def yX3_turn : MethodName := ⟨RX3, "turn", "(II)V"⟩
def yX3_placeOf : MethodName := ⟨RX3, "placeOf", "(ILMergeLine$Book;I)I"⟩
def yX3_doAt : MethodName := ⟨RX3, "doAt", "(ILMergeLine$Book;II)V"⟩
def yX3_gives : MethodName := ⟨RX3, "gives", "(IILMergeLine$Book;)Z"⟩
def yX3_isGiven : MethodName := ⟨RX3, "isGiven", "(LMergeLine$Cells;IIILMergeLine$Book;)Z"⟩
def yX3_takeOver : MethodName := ⟨RX3, "takeOver", "(LMergeLine$Edits;)V"⟩
def yX4_init : MethodName := ⟨RX4, "<init>", "(I)V"⟩
def yX4_swapLimit : MethodName := ⟨RX4, "swapLimit", "(I)I"⟩
def yX4_standing : MethodName := ⟨RX4, "standing", "(I)I"⟩
def yX4_takeOut : MethodName := ⟨RX4, "takeOut", "(II)V"⟩
def yX4_isReady : MethodName := ⟨RX4, "isReady", "(I)Z"⟩
def yX4_isReadyAt : MethodName := ⟨RX4, "isReadyAt", "(I)Z"⟩
def yX4_findsWork : MethodName := ⟨RX4, "findsWork", "()Z"⟩
def yX4_findLone : MethodName := ⟨RX4, "findLone", "()I"⟩
def yX4_gatherLone : MethodName := ⟨RX4, "gatherLone", "(I)V"⟩
def yX4_gather : MethodName := ⟨RX4, "gather", "()V"⟩
def yX4_unitComes : MethodName := ⟨RX4, "unitComes", "(III)Z"⟩
def yX4_sendBack : MethodName := ⟨RX4, "sendBack", "(II)V"⟩
def yX4_trimTop : MethodName := ⟨RX4, "trimTop", "()V"⟩
def yX4_isTopToRun : MethodName := ⟨RX4, "isTopToRun", "()Z"⟩
def yX4_runTop : MethodName := ⟨RX4, "runTop", "()V"⟩
def yX4_isTouchedByTop : MethodName := ⟨RX4, "isTouchedByTop", "(I)Z"⟩
def yX4_takeTop : MethodName := ⟨RX4, "takeTop", "()V"⟩
def yX4_settleTop : MethodName := ⟨RX4, "settleTop", "()V"⟩
def yX4_failTop : MethodName := ⟨RX4, "failTop", "()V"⟩
def yX4_takeOver : MethodName := ⟨RX4, "takeOver", "(LMergeLine$Hall;)V"⟩
def yX5_init : MethodName := ⟨RX5, "<init>", "()V"⟩
def yX5_length : MethodName := ⟨RX5, "length", "()I"⟩
def yX5_add : MethodName := ⟨RX5, "add", "(I)I"⟩
def yX5_changeAt : MethodName := ⟨RX5, "changeAt", "(I)I"⟩
def yX5_placeOf : MethodName := ⟨RX5, "placeOf", "(I)I"⟩
def yX5_drop : MethodName := ⟨RX5, "drop", "(I)V"⟩
def yX5_takeOver : MethodName := ⟨RX5, "takeOver", "(LMergeLine$Lane;)V"⟩
def yX6_init : MethodName := ⟨RX6, "<init>", "()V"⟩
def yX6_runs : MethodName := ⟨RX6, "runs", "()I"⟩
def yX6_write : MethodName := ⟨RX6, "write", "(ILMergeLine$Pile;I)V"⟩
def yX6_setFact : MethodName := ⟨RX6, "setFact", "(II)V"⟩
def yX6_sumOf : MethodName := ⟨RX6, "sumOf", "(LMergeLine$Pile;I)I"⟩
def yX6_tell : MethodName := ⟨RX6, "tell", "(II)I"⟩
def yX6_twist : MethodName := ⟨RX6, "twist", "(III)I"⟩
def yX6_firstWrong : MethodName := ⟨RX6, "firstWrong", "()I"⟩
def yX6_takeOver : MethodName := ⟨RX6, "takeOver", "(LMergeLine$Ledger;)V"⟩
def yX7_init : MethodName := ⟨RX7, "<init>", "()V"⟩
def yX7_rows : MethodName := ⟨RX7, "rows", "()I"⟩
def yX7_units : MethodName := ⟨RX7, "units", "()I"⟩
def yX7_headAt : MethodName := ⟨RX7, "headAt", "(I)I"⟩
def yX7_topLength : MethodName := ⟨RX7, "topLength", "()I"⟩
def yX7_topFailure : MethodName := ⟨RX7, "topFailure", "()I"⟩
def yX7_isTopDoomed : MethodName := ⟨RX7, "isTopDoomed", "()Z"⟩
def yX7_changeCount : MethodName := ⟨RX7, "changeCount", "()I"⟩
def yX7_topChangeCount : MethodName := ⟨RX7, "topChangeCount", "()I"⟩
def yX7_changesAhead : MethodName := ⟨RX7, "changesAhead", "(I)I"⟩
def yX7_changeAt : MethodName := ⟨RX7, "changeAt", "(I)I"⟩
def yX7_holdsChange : MethodName := ⟨RX7, "holdsChange", "(I)Z"⟩
def yX7_add : MethodName := ⟨RX7, "add", "(II)V"⟩
def yX7_push : MethodName := ⟨RX7, "push", "(III)V"⟩
def yX7_dropUnit : MethodName := ⟨RX7, "dropUnit", "(I)V"⟩
def yX7_dropUnits : MethodName := ⟨RX7, "dropUnits", "(II)V"⟩
def yX7_dropTop : MethodName := ⟨RX7, "dropTop", "()V"⟩
def yX7_takeTop : MethodName := ⟨RX7, "takeTop", "()V"⟩
def yX7_doomTop : MethodName := ⟨RX7, "doomTop", "(I)V"⟩
def yX7_halveTop : MethodName := ⟨RX7, "halveTop", "()V"⟩
def yX7_takeOver : MethodName := ⟨RX7, "takeOver", "(LMergeLine$Pile;)V"⟩
def yX8_init : MethodName := ⟨RX8, "<init>", "(I)V"⟩
def yX8_made : MethodName := ⟨RX8, "made", "()I"⟩
def yX8_triesDone : MethodName := ⟨RX8, "triesDone", "()I"⟩
def yX8_kindOf : MethodName := ⟨RX8, "kindOf", "(I)I"⟩
def yX8_subjectOf : MethodName := ⟨RX8, "subjectOf", "(I)I"⟩
def yX8_add : MethodName := ⟨RX8, "add", "(IIII)I"⟩
def yX8_setOdds : MethodName := ⟨RX8, "setOdds", "(II)V"⟩
def yX8_setTries : MethodName := ⟨RX8, "setTries", "(II)V"⟩
def yX8_passes : MethodName := ⟨RX8, "passes", "(ILMergeLine$Book;I)Z"⟩
def yX8_standsOn : MethodName := ⟨RX8, "standsOn", "(ILMergeLine$Book;I)Z"⟩
def yX8_sumOf : MethodName := ⟨RX8, "sumOf", "(LMergeLine$Book;II)I"⟩
def yX8_isAllKnown : MethodName := ⟨RX8, "isAllKnown", "(LMergeLine$Book;II)Z"⟩
def yX8_isRising : MethodName := ⟨RX8, "isRising", "(LMergeLine$Book;II)Z"⟩
def yX8_takeOver : MethodName := ⟨RX8, "takeOver", "(LMergeLine$Tests;)V"⟩
def yX9_init : MethodName := ⟨RX9, "<init>", "(I)V"⟩
def yX9_line : MethodName := ⟨RX9, "line", "(II)I"⟩
def yX9_test : MethodName := ⟨RX9, "test", "(IIII)I"⟩
def yX9_odds : MethodName := ⟨RX9, "odds", "(II)I"⟩
def yX9_tries : MethodName := ⟨RX9, "tries", "(II)I"⟩
def yX9_holds : MethodName := ⟨RX9, "holds", "(II)I"⟩
def yX9_change : MethodName := ⟨RX9, "change", "(I)I"⟩
def yX9_edit : MethodName := ⟨RX9, "edit", "(IIIIII)I"⟩
def yX9_revert : MethodName := ⟨RX9, "revert", "(I)I"⟩
def yX9_pair : MethodName := ⟨RX9, "pair", "(II)I"⟩
def yX9_fits : MethodName := ⟨RX9, "fits", "(I)I"⟩
def yX9_touches : MethodName := ⟨RX9, "touches", "(II)I"⟩
def yX9_queue : MethodName := ⟨RX9, "queue", "(I)I"⟩
def yX9_leave : MethodName := ⟨RX9, "leave", "(I)I"⟩
def yX9_hand : MethodName := ⟨RX9, "hand", "(IZ)I"⟩
def yX9_size : MethodName := ⟨RX9, "size", "(I)I"⟩
def yX9_go : MethodName := ⟨RX9, "go", "(I)I"⟩
def yX9_about : MethodName := ⟨RX9, "about", "(II)I"⟩
def yX9_inLine : MethodName := ⟨RX9, "inLine", "(I)I"⟩
def yX9_inWork : MethodName := ⟨RX9, "inWork", "(I)I"⟩
def yX9_at : MethodName := ⟨RX9, "at", "(IIII)I"⟩
def yX9_log : MethodName := ⟨RX9, "log", "(II)I"⟩
def yX9_alter : MethodName := ⟨RX9, "alter", "(III)I"⟩
def yX9_check : MethodName := ⟨RX9, "check", "()I"⟩
def yX9_keep : MethodName := ⟨RX9, "keep", "()I"⟩
def yX9_goBack : MethodName := ⟨RX9, "goBack", "()I"⟩
def yX9_count : MethodName := ⟨RX9, "count", "(I)I"⟩
def yX9_isIn : MethodName := ⟨RX9, "isIn", "(II)Z"⟩
def yX9_asNumber : MethodName := ⟨RX9, "asNumber", "(Z)I"⟩
def yX9_isChange : MethodName := ⟨RX9, "isChange", "(I)Z"⟩
def yX9_isTakenState : MethodName := ⟨RX9, "isTakenState", "(I)Z"⟩
def yX9_isTestAsTold : MethodName := ⟨RX9, "isTestAsTold", "(IIII)Z"⟩
def yX10_in : MethodName := ⟨RX10, "in", "(JJJ)Z"⟩
def yX10_init : MethodName := ⟨RX10, "<init>", "(I)V"⟩
def yX10_lines : MethodName := ⟨RX10, "lines", "(II)I"⟩
def yX10_cell : MethodName := ⟨RX10, "cell", "(III)I"⟩
def yX10_copyState : MethodName := ⟨RX10, "copyState", "(II)V"⟩
def yX10_isFile : MethodName := ⟨RX10, "isFile", "(I)Z"⟩
def yX10_line : MethodName := ⟨RX10, "line", "(II)I"⟩
def yX10_at : MethodName := ⟨RX10, "at", "(IIII)I"⟩
def yX10_test : MethodName := ⟨RX10, "test", "(IIII)I"⟩
def yX10_isTest : MethodName := ⟨RX10, "isTest", "(I)Z"⟩
def yX10_odds : MethodName := ⟨RX10, "odds", "(II)I"⟩
def yX10_tries : MethodName := ⟨RX10, "tries", "(II)I"⟩
def yX10_name : MethodName := ⟨RX10, "name", "(II)I"⟩
def yX10_givers : MethodName := ⟨RX10, "givers", "(II)I"⟩
def yX10_isSo : MethodName := ⟨RX10, "isSo", "(II)Z"⟩
def yX10_holds : MethodName := ⟨RX10, "holds", "(II)I"⟩
def yX10_isHeld : MethodName := ⟨RX10, "isHeld", "(II)Z"⟩
def yX10_isChange : MethodName := ⟨RX10, "isChange", "(I)Z"⟩
def yX10_newChange : MethodName := ⟨RX10, "newChange", "(I)I"⟩
def yX10_change : MethodName := ⟨RX10, "change", "(I)I"⟩
def yX10_hasFile : MethodName := ⟨RX10, "hasFile", "(II)Z"⟩
def yX10_markAt : MethodName := ⟨RX10, "markAt", "(II)I"⟩
def yX10_edit : MethodName := ⟨RX10, "edit", "(IIIIII)I"⟩
def yX10_fitsAt : MethodName := ⟨RX10, "fitsAt", "(IIZ)I"⟩
def yX10_fitsIn : MethodName := ⟨RX10, "fitsIn", "(II)Z"⟩
def yX10_apply : MethodName := ⟨RX10, "apply", "(II)V"⟩
def yX10_moveLine : MethodName := ⟨RX10, "moveLine", "(IIII)V"⟩
def yX10_comes : MethodName := ⟨RX10, "comes", "(II)Z"⟩
def yX10_revert : MethodName := ⟨RX10, "revert", "(I)I"⟩
def yX10_pair : MethodName := ⟨RX10, "pair", "(II)I"⟩
def yX10_fits : MethodName := ⟨RX10, "fits", "(I)I"⟩
def yX10_gives : MethodName := ⟨RX10, "gives", "(II)Z"⟩
def yX10_isTouched : MethodName := ⟨RX10, "isTouched", "(II)Z"⟩
def yX10_touches : MethodName := ⟨RX10, "touches", "(II)I"⟩
def yX10_placeOf : MethodName := ⟨RX10, "placeOf", "(I)I"⟩
def yX10_queue : MethodName := ⟨RX10, "queue", "(I)I"⟩
def yX10_out : MethodName := ⟨RX10, "out", "(II)V"⟩
def yX10_leave : MethodName := ⟨RX10, "leave", "(I)I"⟩
def yX10_hand : MethodName := ⟨RX10, "hand", "(IZ)I"⟩
def yX10_size : MethodName := ⟨RX10, "size", "(I)I"⟩
def yX10_isFree : MethodName := ⟨RX10, "isFree", "(I)Z"⟩
def yX10_isReady : MethodName := ⟨RX10, "isReady", "(I)Z"⟩
def yX10_isFirst : MethodName := ⟨RX10, "isFirst", "(I)Z"⟩
def yX10_hasKind : MethodName := ⟨RX10, "hasKind", "(II)Z"⟩
def yX10_unitComes : MethodName := ⟨RX10, "unitComes", "(II)Z"⟩
def yX10_fitsAlone : MethodName := ⟨RX10, "fitsAlone", "(I)Z"⟩
def yX10_unitOut : MethodName := ⟨RX10, "unitOut", "(III)V"⟩
def yX10_firstReady : MethodName := ⟨RX10, "firstReady", "(I)I"⟩
def yX10_newRow : MethodName := ⟨RX10, "newRow", "(I)V"⟩
def yX10_addUnit : MethodName := ⟨RX10, "addUnit", "(I)V"⟩
def yX10_makeAlone : MethodName := ⟨RX10, "makeAlone", "(I)V"⟩
def yX10_makeMany : MethodName := ⟨RX10, "makeMany", "()V"⟩
def yX10_makeBatch : MethodName := ⟨RX10, "makeBatch", "()Z"⟩
def yX10_lookThrough : MethodName := ⟨RX10, "lookThrough", "(I)V"⟩
def yX10_cut : MethodName := ⟨RX10, "cut", "(I)V"⟩
def yX10_changesOf : MethodName := ⟨RX10, "changesOf", "(I)I"⟩
def yX10_run : MethodName := ⟨RX10, "run", "(I)V"⟩
def yX10_go : MethodName := ⟨RX10, "go", "(I)I"⟩
def yX10_isInWork : MethodName := ⟨RX10, "isInWork", "(I)Z"⟩
def yX10_about : MethodName := ⟨RX10, "about", "(II)I"⟩
def yX10_inLine : MethodName := ⟨RX10, "inLine", "(I)I"⟩
def yX10_inWork : MethodName := ⟨RX10, "inWork", "(I)I"⟩
def yX10_log : MethodName := ⟨RX10, "log", "(II)I"⟩
def yX10_alter : MethodName := ⟨RX10, "alter", "(III)I"⟩
def yX10_check : MethodName := ⟨RX10, "check", "()I"⟩
def yX10_keep : MethodName := ⟨RX10, "keep", "()I"⟩
def yX10_goBack : MethodName := ⟨RX10, "goBack", "()I"⟩
def yX10_count : MethodName := ⟨RX10, "count", "(I)I"⟩
def yL_cell : MethodName := ⟨RL, "cell", "([II)I"⟩
def yL_law : MethodName := ⟨RL, "law", "([I)Z"⟩
abbrev vwCl : List vw_C := [(RX0, TX0, 5), (RX1, TX1, 1), (RX2, TX2, 10), (RX3, TX3, 7), (RX4, TX4, 7), (RX5, TX5, 2), (RX6, TX6, 3), (RX7, TX7, 8), (RX8, TX8, 10), (RX9, TX9, 3), (RX10, TX10, 6)]
end
section
/-! An interpreter of the part of the bytecode that this claim uses, over whole numbers: values, a store of cells (what kind each is; what whole numbers it holds), blocks of instructions. Part 04 ties it to the machine. -/
abbrev xV : Type := Int ⊕ Int ⊕ Nat ⊕ Bool
abbrev vI (x : Int) : xV := .inl x
abbrev vL (x : Int) : xV := .inr (.inl x)
abbrev vR (r : Nat) : xV := .inr (.inr (.inl r))
abbrev vS : xV := .inr (.inr (.inr true))
abbrev vN : xV := .inr (.inr (.inr false))
/-- what a cell is: an array of ints of a length; an object of a class, and of each field: an int (none), a reference (null, or to a cell) -/
abbrev xK : Type := Nat ⊕ (Nat × List (Option (Option Nat)))
abbrev xM : Type := Nat → Nat → Int
abbrev xS : Type := List xK × xM
abbrev xR : Type := Option xV × xS
/-- pc, length, operation, its form, a, c, place in the pool, a number, places -/
abbrev xI : Type := Nat × Nat × Nat × Nat × Nat × Nat × Nat × Int × List Nat
def wr (x : Int) : Int := (x + 2147483648) % 4294967296 - 2147483648
def wl (x : Int) : Int := (x + 9223372036854775808) % 18446744073709551616 - 9223372036854775808
def up2 (μ : xM) (k i : Nat) (v : Int) : xM := fun k' i' => if k' = k ∧ i' = i then v else μ k' i'
def xxor (x y : Int) : Int := (Int32.ofInt x ^^^ Int32.ofInt y).toInt
-- reading the store
def xgr (σ : xS) (h ci k : Nat) : Option Nat := match σ.1[h]? with
  | some (.inr (c, fs)) => if c = ci then (match fs[k]? with | some (some (some r)) => some r | _ => none) else none
  | _ => none
def xgi (σ : xS) (h ci k : Nat) : Option Int := match σ.1[h]? with
  | some (.inr (c, fs)) => if c = ci then (match fs[k]? with | some none => some (σ.2 h k) | _ => none) else none
  | _ => none
def xpi (σ : xS) (h ci k : Nat) : Option Unit := match σ.1[h]? with
  | some (.inr (c, fs)) => if c = ci then (match fs[k]? with | some none => some () | _ => none) else none
  | _ => none
def xpr (σ : xS) (h ci k r : Nat) : Option xS := match σ.1[h]? with
  | some (.inr (c, fs)) => if c = ci then (match fs[k]? with | some (some _) => some (σ.1.set h (.inr (c, fs.set k (some (some r)))), σ.2) | _ => none) else none
  | _ => none
def xln (σ : xS) (a : Nat) : Option Nat := match σ.1[a]? with | some (.inl n) => some n | _ => none
/-- behind a look at the place -/
def xg (n : Nat) (i : Int) (r : Option xR) : Option xR := if 0 ≤ i ∧ i < n then r else none
def cp2 (μ : xM) (a sp d dp n : Nat) : xM := fun k j => if k = d ∧ dp ≤ j ∧ j < dp + n then μ a (sp + (j - dp)) else μ k j
/-- length and elements of an array, the script's too -/
def xsl (sc : Nat × (Nat → Int)) (σ : xS) : xV → Option Nat | .inr (.inr (.inl r)) => xln σ r | .inr (.inr (.inr true)) => some sc.1 | _ => none
def xld (sc : Nat × (Nat → Int)) (σ : xS) (a : xV) (i : Nat) : Int := match a with | .inr (.inr (.inl r)) => σ.2 r i | _ => sc.2 i
def zr2 (μ : xM) (q : Nat) : xM := fun k j => if k = q then 0 else μ k j
/-- the fields of a new object, by the class's number: which are references -/
def xbk : Nat → List (Option (Option Nat))
  | 0 => [some none, some none, some none, none, none]
  | 1 => [some none]
  | 2 => [some none, some none, some none, some none, some none, some none, some none, some none, some none, none]
  | 3 => [some none, some none, some none, some none, some none, some none, some none]
  | 4 => [some none, some none, some none, some none, some none, some none, none]
  | 5 => [some none, none]
  | 6 => [some none, some none, none]
  | 7 => [some none, some none, some none, some none, some none, some none, none, none]
  | 8 => [some none, some none, some none, some none, some none, none, none, none, none, none]
  | 9 => [some none, some none, none]
  | 10 => [some none, some none, none, none, some none, some none]
  | _ => []
def xnw (σ : xS) (ci : Nat) : xS := (σ.1 ++ [.inr (ci, xbk ci)], zr2 σ.2 σ.1.length)
def xna (σ : xS) (n : Int) : Option xS := if 0 ≤ n ∧ n ≤ 100000 then some (σ.1 ++ [.inl n.toNat], zr2 σ.2 σ.1.length) else none
-- the stack
def pI : List xV → Option (Int × List xV) | .inl x :: S => some (x, S) | _ => none
def pII : List xV → Option (Int × Int × List xV) | .inl y :: .inl x :: S => some (x, y, S) | _ => none
def pL : List xV → Option (Int × List xV) | .inr (.inl x) :: S => some (x, S) | _ => none
def pLL : List xV → Option (Int × Int × List xV) | .inr (.inl y) :: .inr (.inl x) :: S => some (x, y, S) | _ => none
def pR : List xV → Option (Nat × List xV) | .inr (.inr (.inl r)) :: S => some (r, S) | _ => none
def pIR : List xV → Option (Int × Nat × List xV) | .inl x :: .inr (.inr (.inl r)) :: S => some (x, r, S) | _ => none
def pRR : List xV → Option (Nat × Nat × List xV) | .inr (.inr (.inl x)) :: .inr (.inr (.inl r)) :: S => some (x, r, S) | _ => none
def pA : List xV → Option (xV × List xV) | .inr (.inr (.inl r)) :: S => some (.inr (.inr (.inl r)), S) | .inr (.inr (.inr true)) :: S => some (.inr (.inr (.inr true)), S) | _ => none
def pIA : List xV → Option (Int × xV × List xV) | .inl x :: .inr (.inr (.inl r)) :: S => some (x, .inr (.inr (.inl r)), S) | .inl x :: .inr (.inr (.inr true)) :: S => some (x, .inr (.inr (.inr true)), S) | _ => none
def p1 : List xV → Option (xV × List xV) | .inl x :: S => some (.inl x, S) | .inr (.inr (.inl r)) :: S => some (.inr (.inr (.inl r)), S) | _ => none
def pI1 : List xV → Option Int | [.inl x] => some x | _ => none
def p0 : List xV → Option Unit | [] => some () | _ => none
def ldI (L : List xV) (a : Nat) : Option Int := match L[a]? with | some (.inl x) => some x | _ => none
def ldL (L : List xV) (a : Nat) : Option Int := match L[a]? with | some (.inr (.inl x)) => some x | _ => none
def ldA (L : List xV) (a : Nat) : Option xV := match L[a]? with | some (.inr (.inr (.inl r))) => some (.inr (.inr (.inl r))) | some (.inr (.inr (.inr true))) => some (.inr (.inr (.inr true))) | _ => none
/-- a local is set; the first half of a long that is overwritten is gone -/
def xset : List xV → Nat → xV → List xV
  | [], _, _ => []
  | _ :: L, 0, v => v :: L
  | .inr (.inl _) :: L, 1, v => vN :: xset L 0 v
  | u :: L, n + 1, v => u :: xset L n v
def xcat : xV → Nat | .inr (.inl _) => 2 | _ => 1
def xle : Nat → List xV → Bool
  | _, [] => true
  | n + 1, .inl _ :: S => xle n S
  | n + 1, .inr (.inr _) :: S => xle n S
  | n + 2, .inr (.inl _) :: S => xle n S
  | _, _ => false
def st8 (n : Nat) (S : List xV) : Option (List xV) := match xle n S with | true => some S | false => none
def xtake : Nat → List xV → List xV → Option (List xV × List xV)
  | 0, acc, S => some (acc, S)
  | _ + 1, _, [] => none
  | n + 1, acc, v :: S => xtake n (v :: acc) S
/-- operations on locals and stack alone -/
def xpure (o a : Nat) (v : Int) (L S : List xV) : Option (List xV × List xV) := match o with
  | 0 => some (L, .inl v :: S)
  | 1 => (ldI L a).bind fun x => some (L, .inl x :: S)
  | 2 => (ldA L a).bind fun x => some (L, x :: S)
  | 3 => (ldL L a).bind fun x => some (L, .inr (.inl x) :: S)
  | 4 => (pI S).bind fun q => some (xset L a (.inl q.1), q.2)
  | 5 => (pA S).bind fun q => some (xset L a q.1, q.2)
  | 6 => (pL S).bind fun q => some ((xset L a (.inr (.inl q.1))).set (a + 1) vN, q.2)
  | 7 => (ldI L a).bind fun x => some (xset L a (.inl (wr (x + v))), S)
  | 8 => (pII S).bind fun q => some (L, .inl (wr (q.1 + q.2.1)) :: q.2.2)
  | 9 => (pII S).bind fun q => some (L, .inl (wr (q.1 - q.2.1)) :: q.2.2)
  | 10 => (pII S).bind fun q => some (L, .inl (wr (q.1 * q.2.1)) :: q.2.2)
  | 15 => (pII S).bind fun q => some (L, .inl (xxor q.1 q.2.1) :: q.2.2)
  | 16 => (pI S).bind fun q => some (L, .inr (.inl q.1) :: q.2)
  | 17 => (pL S).bind fun q => some (L, .inl (wr q.1) :: q.2)
  | 18 => some (L, .inr (.inl v) :: S)
  | 19 => (pLL S).bind fun q => some (L, .inl (if q.1 = q.2.1 then 0 else if q.2.1 < q.1 then 1 else -1) :: q.2.2)
  | 20 => (pLL S).bind fun q => some (L, .inr (.inl (wl (q.1 + q.2.1))) :: q.2.2)
  | 21 => (pLL S).bind fun q => some (L, .inr (.inl (wl (q.1 * q.2.1))) :: q.2.2)
  | 23 => (p1 S).bind fun q => some (L, q.1 :: q.1 :: q.2)
  | 24 => (p1 S).bind fun q => (p1 q.2).bind fun r => some (L, q.1 :: r.1 :: q.1 :: r.1 :: r.2)
  | 25 => (p1 S).bind fun q => some (L, q.2)
  | _ => none
/-- operations on the store -/
def xmemo (sc : Nat × (Nat → Int)) (o w a c : Nat) (S : List xV) (σ : xS) : Option (List xV × xS) := match o with
  | 31 => (pA S).bind fun q => (xsl sc σ q.1).bind fun n => some (.inl (n : Int) :: q.2, σ)
  | 34 => (pR S).bind fun q => (xgi σ q.1 a c).bind fun x => some (.inl x :: q.2, σ)
  | 35 => (pR S).bind fun q => (xgr σ q.1 a c).bind fun x => some (.inr (.inr (.inl x)) :: q.2, σ)
  | 37 => (pRR S).bind fun q => (xpr σ q.2.1 a c q.1).bind fun σ' => some (q.2.2, σ')
  | 38 => some (.inr (.inr (.inl σ.1.length)) :: S, xnw σ a)
  | 39 => (pI S).bind fun q => (xna σ q.1).bind fun σ' => some (.inr (.inr (.inl σ.1.length)) :: q.2, σ')
  | 43 => (pR S).bind fun q => (st8 8 q.2).bind fun S' => some (S', σ)
  | 45 => (pII S).bind fun q => (st8 8 q.2.2).bind fun S' => some (.inl (if q.2.1 < q.1 then q.2.1 else q.1) :: S', σ)
  | _ => none
def xif (c : Nat) (x y : Int) (t e : Option xR) : Option xR := match c with
  | 0 => if x = y then t else e
  | 1 => if x = y then e else t
  | 2 => if x < y then t else e
  | 3 => if x < y then e else t
  | 4 => if y < x then t else e
  | _ => if y < x then e else t
def xsw (x : Int) (J : Nat → Option xR) (d : Nat) : Int → List Nat → Option xR
  | _, [] => J d
  | lo, t :: ts => if x = lo then J t else xsw x J d (lo + 1) ts
def xcI (r : Option xR) (k : Int → xS → Option xR) : Option xR := match r with | some (some (.inl x), σ) => k x σ | _ => none
def xcV (r : Option xR) (k : xS → Option xR) : Option xR := match r with | some (none, σ) => k σ | _ => none
/-- the receiver of a call is an object of the class -/
def xis (σ : xS) (h ci : Nat) : Bool := match σ.1[h]? with | some (.inr (c, _)) => c == ci | _ => false
def xcv (env : Nat → List xV → xS → Option xR) (a ci : Nat) (as : List xV) (σ : xS) : Option xR := match as with
  | .inr (.inr (.inl h)) :: _ => (match xis σ h ci with | true => env a as σ | false => none)
  | _ => none
def xci (env : Nat → List xV → xS → Option xR) (a : Nat) (as : List xV) (σ : xS) : Option xR := match as with
  | .inr (.inr (.inl _)) :: _ => env a as σ
  | _ => none
def xstep (sc : Nat × (Nat → Int)) (env : Nat → List xV → xS → Option xR) (j : Nat → List xV → List xV → xS → Option xR) (e : xI) (L S : List xV) (σ : xS) (k : List xV → List xV → xS → Option xR) : Option xR := match e with
  | (_, _, o, w, a, c, _, v, ts) => match o with
    | 26 => j a L S σ
    | 27 => j a L S σ
    | 28 => (pII S).bind fun q => xif c q.1 q.2.1 (j a L q.2.2 σ) (k L q.2.2 σ)
    | 29 => (pI S).bind fun q => xif c q.1 0 (j a L q.2 σ) (k L q.2 σ)
    | 30 => (pI S).bind fun q => xsw q.1 (fun b => j b L q.2 σ) c v ts
    | 11 => (pII S).bind fun q => if 0 ≤ q.1 ∧ 0 < q.2.1 then k L (.inl (q.1 / q.2.1) :: q.2.2) σ else none
    | 12 => (pII S).bind fun q => if 0 ≤ q.1 ∧ 0 < q.2.1 then k L (.inl (q.1 % q.2.1) :: q.2.2) σ else none
    | 13 => (pII S).bind fun q => if q.2.1 = 8 then k L (.inl (q.1 % 4294967296 / 256) :: q.2.2) σ else none
    | 14 => (pII S).bind fun q => if q.2.1 = 31 then k L (.inl (q.1 % 32) :: q.2.2) σ else none
    | 22 => (pLL S).bind fun q => if 0 ≤ q.1 ∧ 0 < q.2.1 then k L (.inr (.inl (q.1 % q.2.1)) :: q.2.2) σ else none
    | 32 => (pIA S).bind fun q => (xsl sc σ q.2.1).bind fun n => xg n q.1 (k L (.inl (xld sc σ q.2.1 q.1.toNat) :: q.2.2) σ)
    | 33 => (pI S).bind fun v => (pIR v.2).bind fun q => (xln σ q.2.1).bind fun n => xg n q.1 (k L q.2.2 (σ.1, up2 σ.2 q.2.1 q.1.toNat v.1))
    | 36 => (pIR S).bind fun q => (xpi σ q.2.1 a c).bind fun _ => (match w with | 0 => k L q.2.2 (σ.1, up2 σ.2 q.2.1 c q.1) | _ => if q.1 = 0 ∨ q.1 = 1 then k L q.2.2 (σ.1, up2 σ.2 q.2.1 c q.1) else none)
    | 44 => (pI S).bind fun n => (pIR n.2).bind fun d => (pIR d.2.2).bind fun s => (st8 8 s.2.2).bind fun S' => (xln σ s.2.1).bind fun la => (xln σ d.2.1).bind fun ld =>
        if 0 ≤ s.1 ∧ 0 ≤ d.1 ∧ 0 ≤ n.1 ∧ s.1 + n.1 ≤ la ∧ d.1 + n.1 ≤ ld then k L S' (σ.1, cp2 σ.2 s.2.1 s.1.toNat d.2.1 d.1.toNat n.1.toNat) else none
    | 31 => (xmemo sc 31 w a c S σ).bind fun q => k L q.1 q.2
    | 34 => (xmemo sc 34 w a c S σ).bind fun q => k L q.1 q.2
    | 35 => (xmemo sc 35 w a c S σ).bind fun q => k L q.1 q.2
    | 37 => (xmemo sc 37 w a c S σ).bind fun q => k L q.1 q.2
    | 38 => (xmemo sc 38 w a c S σ).bind fun q => k L q.1 q.2
    | 39 => (xmemo sc 39 w a c S σ).bind fun q => k L q.1 q.2
    | 43 => (xmemo sc 43 w a c S σ).bind fun q => k L q.1 q.2
    | 45 => (xmemo sc 45 w a c S σ).bind fun q => k L q.1 q.2
    | 40 => (xtake c [] S).bind fun q => (st8 8 q.2).bind fun S' => xcI (xcv env a w q.1 σ) fun x σ' => k L (.inl x :: S') σ'
    | 41 => (xtake c [] S).bind fun q => (st8 8 q.2).bind fun S' => xcV (xcv env a w q.1 σ) fun σ' => k L S' σ'
    | 42 => (xtake c [] S).bind fun q => (st8 8 q.2).bind fun S' => xcI (env a q.1 σ) fun x σ' => k L (.inl x :: S') σ'
    | 48 => (xtake c [] S).bind fun q => (st8 8 q.2).bind fun S' => xcV (xci env a q.1 σ) fun σ' => k L S' σ'
    | 46 => (pI1 S).bind fun x => (match a with | 0 => some (some (.inl x), σ) | _ => if x = 0 ∨ x = 1 then some (some (.inl x), σ) else none)
    | 47 => (p0 S).bind fun _ => some (none, σ)
    | o => (xpure o a v L S).bind fun q => k q.1 q.2 σ
def xblk (sc : Nat × (Nat → Int)) (env : Nat → List xV → xS → Option xR) (j : Nat → List xV → List xV → xS → Option xR) : List xI → List xV → List xV → xS → Option xR
  | [], _, _, _ => none
  | e :: es, L, S, σ => xstep sc env j e L S σ (xblk sc env j es)
/-- the locals at a method's entry: a long takes two -/
def xlo (as : List xV) : List xV := as.flatMap fun v => match v with | .inr (.inl x) => [.inr (.inl x), vN] | v => [v]
def xloc (n : Nat) (as : List xV) : List xV := xlo as ++ List.replicate (n - (xlo as).length) vN
/-- the locals that a block still reads -/
def xmk : List Bool → List xV → List xV
  | true :: m, v :: L => v :: xmk m L
  | false :: m, _ :: L => vN :: xmk m L
  | _, _ => []
/-- a call, if the arguments fit the locals -/
def xen (nl : Nat → Nat) (f : Nat → Nat → List xV → List xV → xS → Option xR) (a : Nat) (as : List xV) (σ : xS) : Option xR := match Nat.ble (xlo as).length (nl a) with | true => f a 0 (xloc (nl a) as) [] σ | false => none
theorem xen_of {nl : Nat → Nat} {f : Nat → Nat → List xV → List xV → xS → Option xR} {a : Nat} {as : List xV} {σ : xS} {r : xR} (h : xen nl f a as σ = some r) : (xlo as).length ≤ nl a ∧ f a 0 (xloc (nl a) as) [] σ = some r := by
  unfold xen at h
  split at h
  · exact ⟨Nat.le_of_ble_eq_true (by assumption), h⟩
  · cases h
theorem xen_mk {nl : Nat → Nat} {f : Nat → Nat → List xV → List xV → xS → Option xR} {a : Nat} {as : List xV} {σ : xS} {r : xR} (h : (xlo as).length ≤ nl a) (h2 : f a 0 (xloc (nl a) as) [] σ = some r) : xen nl f a as σ = some r := by
  unfold xen
  rw [Nat.ble_eq_true_of_le h]
  exact h2
def xrun (sc : Nat × (Nat → Int)) (cd : Nat → Nat → List xI) (nl : Nat → Nat) (mk : Nat → Nat → List Bool) : Nat → Nat → Nat → List xV → List xV → xS → Option xR
  | 0, _, _, _, _, _ => none
  | n + 1, mi, b, L, S, σ => xblk sc (xen nl (fun mi b L S σ => xrun sc cd nl mk n mi b L S σ)) (fun b L S σ => xrun sc cd nl mk n mi b (xmk (mk mi b) L) S σ) (cd mi b) L S σ
theorem ite_ev {P : Prop} [Decidable P] {t e : Option xR} {ts es : Nat → Option xR} {r : xR} (ht : t = some r → ∃ n, ∀ m, n ≤ m → ts m = some r) (he : e = some r → ∃ n, ∀ m, n ≤ m → es m = some r) (h : (if P then t else e) = some r) : ∃ n, ∀ m, n ≤ m → (if P then ts m else es m) = some r := by
  by_cases hP : P
  · rw [if_pos hP] at h
    obtain ⟨n, hn⟩ := ht h
    exact ⟨n, fun m hm => by rw [if_pos hP]; exact hn m hm⟩
  · rw [if_neg hP] at h
    obtain ⟨n, hn⟩ := he h
    exact ⟨n, fun m hm => by rw [if_neg hP]; exact hn m hm⟩
theorem xif_ev {c : Nat} {x y : Int} {t e : Option xR} {ts es : Nat → Option xR} {r : xR} (ht : t = some r → ∃ n, ∀ m, n ≤ m → ts m = some r) (he : e = some r → ∃ n, ∀ m, n ≤ m → es m = some r) (h : xif c x y t e = some r) : ∃ n, ∀ m, n ≤ m → xif c x y (ts m) (es m) = some r := by
  match c, h with
  | 0, h => exact ite_ev ht he h
  | 1, h => exact ite_ev he ht h
  | 2, h => exact ite_ev ht he h
  | 3, h => exact ite_ev he ht h
  | 4, h => exact ite_ev ht he h
  | c + 5, h => exact ite_ev he ht h
theorem xsw_ev {x : Int} {J : Nat → Option xR} {Js : Nat → Nat → Option xR} {d : Nat} {r : xR} (hJ : ∀ b, J b = some r → ∃ n, ∀ m, n ≤ m → Js m b = some r) : ∀ (ts : List Nat) (lo : Int), xsw x J d lo ts = some r → ∃ n, ∀ m, n ≤ m → xsw x (Js m) d lo ts = some r := by
  intro ts
  induction ts with
  | nil => intro lo h; exact hJ d h
  | cons t ts ih =>
    intro lo h
    unfold xsw at h ⊢
    split at h
    · rename_i hc
      obtain ⟨n, hn⟩ := hJ t h
      exact ⟨n, fun m hm => by rw [if_pos hc]; exact hn m hm⟩
    · rename_i hc
      obtain ⟨n, hn⟩ := ih _ h
      exact ⟨n, fun m hm => by rw [if_neg hc]; exact hn m hm⟩
theorem xcI_of {r : Option xR} {k : Int → xS → Option xR} {t : xR} (h : xcI r k = some t) : ∃ x σ, r = some (some (.inl x), σ) ∧ k x σ = some t := by
  unfold xcI at h
  split at h
  · exact ⟨_, _, rfl, h⟩
  · cases h
theorem xcV_of {r : Option xR} {k : xS → Option xR} {t : xR} (h : xcV r k = some t) : ∃ σ, r = some (none, σ) ∧ k σ = some t := by
  unfold xcV at h
  split at h
  · exact ⟨_, rfl, h⟩
  · cases h
theorem xcv_of {env : Nat → List xV → xS → Option xR} {a ci : Nat} {as : List xV} {σ : xS} {t : xR} (h : xcv env a ci as σ = some t) : ∃ h0 as', as = .inr (.inr (.inl h0)) :: as' ∧ xis σ h0 ci = true ∧ env a as σ = some t := by
  unfold xcv at h
  split at h
  · split at h
    · rename_i hh
      exact ⟨_, _, rfl, hh, h⟩
    · cases h
  · cases h
theorem xci_of {env : Nat → List xV → xS → Option xR} {a : Nat} {as : List xV} {σ : xS} {t : xR} (h : xci env a as σ = some t) : ∃ h0 as', as = .inr (.inr (.inl h0)) :: as' ∧ env a as σ = some t := by
  unfold xci at h
  split at h
  · exact ⟨_, _, rfl, h⟩
  · cases h
theorem xstep_ev {sc : Nat × (Nat → Int)} {env : Nat → List xV → xS → Option xR} {j : Nat → List xV → List xV → xS → Option xR} {envs : Nat → Nat → List xV → xS → Option xR} {js : Nat → Nat → List xV → List xV → xS → Option xR} {e : xI} {L S : List xV} {σ : xS} {k : List xV → List xV → xS → Option xR} {ks : Nat → List xV → List xV → xS → Option xR} {r : xR}
    (hE : ∀ a as σ q, env a as σ = some q → ∃ n, ∀ m, n ≤ m → envs m a as σ = some q) (hJ : ∀ b L S σ, j b L S σ = some r → ∃ n, ∀ m, n ≤ m → js m b L S σ = some r) (hk : ∀ L S σ, k L S σ = some r → ∃ n, ∀ m, n ≤ m → ks m L S σ = some r)
    (h : xstep sc env j e L S σ k = some r) : ∃ n, ∀ m, n ≤ m → xstep sc (envs m) (js m) e L S σ (ks m) = some r := by
  obtain ⟨pc, len, o, w, a, c, z, v, ts⟩ := e
  unfold xstep at h ⊢
  dsimp only at h ⊢
  split at h
  · exact hJ _ _ _ _ h
  · exact hJ _ _ _ _ h
  · obtain ⟨q, hq, h⟩ := Option.bind_eq_some_iff.mp h
    simp only [hq, Option.bind_some]
    exact xif_ev (hJ _ _ _ _) (hk _ _ _) h
  · obtain ⟨q, hq, h⟩ := Option.bind_eq_some_iff.mp h
    simp only [hq, Option.bind_some]
    exact xif_ev (hJ _ _ _ _) (hk _ _ _) h
  · obtain ⟨q, hq, h⟩ := Option.bind_eq_some_iff.mp h
    simp only [hq, Option.bind_some]
    exact xsw_ev (fun b => hJ _ _ _ _) _ _ h
  iterate 5
    · obtain ⟨q, hq, h⟩ := Option.bind_eq_some_iff.mp h
      simp only [hq, Option.bind_some]
      exact ite_ev (hk _ _ _) (fun h => by cases h) h
  · obtain ⟨q, hq, h⟩ := Option.bind_eq_some_iff.mp h
    obtain ⟨n, hn, h⟩ := Option.bind_eq_some_iff.mp h
    simp only [hq, hn, Option.bind_some]
    exact ite_ev (hk _ _ _) (fun h => by cases h) h
  · obtain ⟨q, hq, h⟩ := Option.bind_eq_some_iff.mp h
    obtain ⟨q2, hq2, h⟩ := Option.bind_eq_some_iff.mp h
    obtain ⟨n, hn, h⟩ := Option.bind_eq_some_iff.mp h
    simp only [hq, hq2, hn, Option.bind_some]
    exact ite_ev (hk _ _ _) (fun h => by cases h) h
  · obtain ⟨q, hq, h⟩ := Option.bind_eq_some_iff.mp h
    obtain ⟨u, hu, h⟩ := Option.bind_eq_some_iff.mp h
    simp only [hq, hu, Option.bind_some]
    split at h
    · exact hk _ _ _ h
    · exact ite_ev (hk _ _ _) (fun h => by cases h) h
  · obtain ⟨n, hn, h⟩ := Option.bind_eq_some_iff.mp h
    obtain ⟨d, hd, h⟩ := Option.bind_eq_some_iff.mp h
    obtain ⟨s, hs, h⟩ := Option.bind_eq_some_iff.mp h
    obtain ⟨S', hS, h⟩ := Option.bind_eq_some_iff.mp h
    obtain ⟨la, hla, h⟩ := Option.bind_eq_some_iff.mp h
    obtain ⟨ld, hld, h⟩ := Option.bind_eq_some_iff.mp h
    simp only [hn, hd, hs, hS, hla, hld, Option.bind_some]
    exact ite_ev (hk _ _ _) (fun h => by cases h) h
  iterate 8
    · obtain ⟨q, hq, h⟩ := Option.bind_eq_some_iff.mp h
      simp only [hq, Option.bind_some]
      exact hk _ _ _ h
  · obtain ⟨q, hq, h⟩ := Option.bind_eq_some_iff.mp h
    obtain ⟨S', hS, h⟩ := Option.bind_eq_some_iff.mp h
    obtain ⟨x, σ', hc, h⟩ := xcI_of h
    obtain ⟨h0, as', e1, e2, e3⟩ := xcv_of hc
    obtain ⟨n1, h1⟩ := hE _ _ _ _ e3
    obtain ⟨n2, h2⟩ := hk _ _ _ h
    refine ⟨max n1 n2, fun m hm => ?_⟩
    simp only [hq, hS, Option.bind_some]
    have h3 := h1 m (by omega)
    rw [e1] at h3 ⊢
    simp only [xcv, e2, h3, xcI]
    exact h2 m (by omega)
  · obtain ⟨q, hq, h⟩ := Option.bind_eq_some_iff.mp h
    obtain ⟨S', hS, h⟩ := Option.bind_eq_some_iff.mp h
    obtain ⟨σ', hc, h⟩ := xcV_of h
    obtain ⟨h0, as', e1, e2, e3⟩ := xcv_of hc
    obtain ⟨n1, h1⟩ := hE _ _ _ _ e3
    obtain ⟨n2, h2⟩ := hk _ _ _ h
    refine ⟨max n1 n2, fun m hm => ?_⟩
    simp only [hq, hS, Option.bind_some]
    have h3 := h1 m (by omega)
    rw [e1] at h3 ⊢
    simp only [xcv, e2, h3, xcV]
    exact h2 m (by omega)
  · obtain ⟨q, hq, h⟩ := Option.bind_eq_some_iff.mp h
    obtain ⟨S', hS, h⟩ := Option.bind_eq_some_iff.mp h
    obtain ⟨x, σ', hc, h⟩ := xcI_of h
    obtain ⟨n1, h1⟩ := hE _ _ _ _ hc
    obtain ⟨n2, h2⟩ := hk _ _ _ h
    refine ⟨max n1 n2, fun m hm => ?_⟩
    simp only [hq, hS, Option.bind_some, h1 m (by omega), xcI]
    exact h2 m (by omega)
  · obtain ⟨q, hq, h⟩ := Option.bind_eq_some_iff.mp h
    obtain ⟨S', hS, h⟩ := Option.bind_eq_some_iff.mp h
    obtain ⟨σ', hc, h⟩ := xcV_of h
    obtain ⟨h0, as', e1, e3⟩ := xci_of hc
    obtain ⟨n1, h1⟩ := hE _ _ _ _ e3
    obtain ⟨n2, h2⟩ := hk _ _ _ h
    refine ⟨max n1 n2, fun m hm => ?_⟩
    simp only [hq, hS, Option.bind_some]
    have h3 := h1 m (by omega)
    rw [e1] at h3 ⊢
    simp only [xci, h3, xcV]
    exact h2 m (by omega)
  · exact ⟨0, fun _ _ => h⟩
  · exact ⟨0, fun _ _ => h⟩
  · obtain ⟨q, hq, h⟩ := Option.bind_eq_some_iff.mp h
    simp only [hq, Option.bind_some]
    exact hk _ _ _ h
theorem xblk_ev {sc : Nat × (Nat → Int)} {env : Nat → List xV → xS → Option xR} {j : Nat → List xV → List xV → xS → Option xR} {envs : Nat → Nat → List xV → xS → Option xR} {js : Nat → Nat → List xV → List xV → xS → Option xR} {r : xR}
    (hE : ∀ a as σ q, env a as σ = some q → ∃ n, ∀ m, n ≤ m → envs m a as σ = some q) (hJ : ∀ b L S σ, j b L S σ = some r → ∃ n, ∀ m, n ≤ m → js m b L S σ = some r) :
    ∀ (es : List xI) (L S : List xV) (σ : xS), xblk sc env j es L S σ = some r → ∃ n, ∀ m, n ≤ m → xblk sc (envs m) (js m) es L S σ = some r := by
  intro es
  induction es with
  | nil => intro L S σ h; cases h
  | cons e es ih =>
    intro L S σ h
    exact xstep_ev hE hJ ih h
theorem xrun_up {sc : Nat × (Nat → Int)} {cd : Nat → Nat → List xI} {nl : Nat → Nat} {mk : Nat → Nat → List Bool} : ∀ (n mi b : Nat) (L S : List xV) (σ : xS) (r : xR), xrun sc cd nl mk n mi b L S σ = some r → xrun sc cd nl mk (n + 1) mi b L S σ = some r := by
  intro n
  induction n with
  | zero => intro mi b L S σ r h; cases h
  | succ n ih =>
    intro mi b L S σ r h
    unfold xrun at h ⊢
    obtain ⟨n0, h0⟩ := xblk_ev (envs := fun _ => xen nl (fun mi b L S σ => xrun sc cd nl mk (n + 1) mi b L S σ)) (js := fun _ b L S σ => xrun sc cd nl mk (n + 1) mi b (xmk (mk mi b) L) S σ) (fun a as σ q hq => ⟨0, fun _ _ => xen_mk (xen_of hq).1 (ih _ _ _ _ _ _ (xen_of hq).2)⟩) (fun b L S σ hq => ⟨0, fun _ _ => ih _ _ _ _ _ _ hq⟩) _ _ _ _ h
    exact h0 n0 (Nat.le_refl _)
theorem xrun_mono {sc : Nat × (Nat → Int)} {cd : Nat → Nat → List xI} {nl : Nat → Nat} {mk : Nat → Nat → List Bool} {n mi b : Nat} {L S : List xV} {σ : xS} {r : xR} (h : xrun sc cd nl mk n mi b L S σ = some r) : ∀ m, n ≤ m → xrun sc cd nl mk m mi b L S σ = some r := by
  intro m hm
  induction m with
  | zero => rw [show n = 0 by omega] at h; exact h
  | succ m ih =>
    by_cases hc : n ≤ m
    · exact xrun_up _ _ _ _ _ _ _ (ih hc)
    · rw [show m + 1 = n by omega]; exact h
/-- the run from a block on, for good: none if it does not end -/
noncomputable def xat (sc : Nat × (Nat → Int)) (cd : Nat → Nat → List xI) (nl : Nat → Nat) (mk : Nat → Nat → List Bool) (mi b : Nat) (L S : List xV) (σ : xS) : Option xR :=
  @dite _ (∃ n, (xrun sc cd nl mk n mi b L S σ).isSome = true) (Classical.propDecidable _) (fun h => xrun sc cd nl mk (Classical.choose h) mi b L S σ) (fun _ => none)
theorem xat_iff {sc : Nat × (Nat → Int)} {cd : Nat → Nat → List xI} {nl : Nat → Nat} {mk : Nat → Nat → List Bool} {mi b : Nat} {L S : List xV} {σ : xS} {r : xR} : xat sc cd nl mk mi b L S σ = some r ↔ ∃ n, xrun sc cd nl mk n mi b L S σ = some r := by
  unfold xat
  constructor
  · intro h
    split at h
    · exact ⟨_, h⟩
    · cases h
  · rintro ⟨n, hn⟩
    have hx : ∃ n, (xrun sc cd nl mk n mi b L S σ).isSome = true := ⟨n, by rw [hn]; rfl⟩
    rw [dif_pos hx]
    have h2 := Classical.choose_spec hx
    obtain ⟨r2, hr2⟩ := Option.isSome_iff_exists.mp h2
    have h3 := xrun_mono hr2 (max n (Classical.choose hx)) (by omega)
    have h4 := xrun_mono hn (max n (Classical.choose hx)) (by omega)
    rw [hr2, ← h3, h4]
theorem xat_ev {sc : Nat × (Nat → Int)} {cd : Nat → Nat → List xI} {nl : Nat → Nat} {mk : Nat → Nat → List Bool} {mi b : Nat} {L S : List xV} {σ : xS} {r : xR} (h : xat sc cd nl mk mi b L S σ = some r) : ∃ n, ∀ m, n ≤ m → xrun sc cd nl mk m mi b L S σ = some r := by
  obtain ⟨n, hn⟩ := xat_iff.mp h
  exact ⟨n, xrun_mono hn⟩
theorem xat_eq (sc : Nat × (Nat → Int)) (cd : Nat → Nat → List xI) (nl : Nat → Nat) (mk : Nat → Nat → List Bool) (mi b : Nat) (L S : List xV) (σ : xS) : xat sc cd nl mk mi b L S σ = xblk sc (xen nl (xat sc cd nl mk)) (fun b L S σ => xat sc cd nl mk mi b (xmk (mk mi b) L) S σ) (cd mi b) L S σ := by
  apply Option.ext
  intro r
  constructor
  · intro h
    obtain ⟨n, hn⟩ := xat_iff.mp h
    cases n with
    | zero => cases hn
    | succ n =>
      unfold xrun at hn
      obtain ⟨n0, h0⟩ := xblk_ev (envs := fun _ => xen nl (xat sc cd nl mk)) (js := fun _ b L S σ => xat sc cd nl mk mi b (xmk (mk mi b) L) S σ) (fun a as σ q hq => ⟨0, fun _ _ => xen_mk (xen_of hq).1 (xat_iff.mpr ⟨n, (xen_of hq).2⟩)⟩) (fun b L S σ hq => ⟨0, fun _ _ => xat_iff.mpr ⟨n, hq⟩⟩) _ _ _ _ hn
      exact h0 n0 (Nat.le_refl _)
  · intro h
    obtain ⟨n0, h0⟩ := xblk_ev (envs := fun n => xen nl (fun mi b L S σ => xrun sc cd nl mk n mi b L S σ)) (js := fun n b L S σ => xrun sc cd nl mk n mi b (xmk (mk mi b) L) S σ) (fun a as σ q hq => by obtain ⟨n, hn⟩ := xat_ev (xen_of hq).2; exact ⟨n, fun m hm => xen_mk (xen_of hq).1 (hn m hm)⟩) (fun b L S σ hq => xat_ev hq) _ _ _ _ h
    exact xat_iff.mpr ⟨n0 + 1, h0 n0 (Nat.le_refl _)⟩
end
section
/-! every method as blocks of instructions, by program out of the printed rows -/
/-- MergeLine$Book.<init>()V -/
def cd_0 : List (List xI) := [[(0,1,2,1,0,0,0,0,[]), (1,3,43,0,0,0,3,0,[86]), (4,1,2,1,0,0,0,0,[]), (5,3,0,2,0,0,0,12096,[]), (8,2,39,0,0,0,0,0,[]), (10,3,37,0,0,0,9,0,[87]), (13,1,2,1,0,0,0,0,[]), (14,3,0,2,0,0,0,504,[]), (17,2,39,0,0,0,0,0,[]), (19,3,37,0,0,1,15,0,[88]), (22,1,2,1,0,0,0,0,[]), (23,3,0,2,0,0,0,1153,[]), (26,2,39,0,0,0,0,0,[]), (28,3,37,0,0,2,18,0,[89]), (31,1,2,1,0,0,0,0,[]), (32,1,0,0,0,0,0,0,[]), (33,3,36,0,0,3,21,0,[90]), (36,1,2,1,0,0,0,0,[]), (37,1,0,0,0,0,0,0,[]), (38,3,36,0,0,4,25,0,[91]), (41,1,47,0,0,0,0,0,[])]]
/-- MergeLine$Book.latest()I -/
def cd_1 : List (List xI) := [[(0,1,2,1,0,0,0,0,[]), (1,3,34,0,0,3,21,0,[90]), (4,1,46,0,0,0,0,0,[])]]
/-- MergeLine$Book.marksMade()I -/
def cd_2 : List (List xI) := [[(0,1,2,1,0,0,0,0,[]), (1,3,34,0,0,4,25,0,[91]), (4,1,46,0,0,0,0,0,[])]]
/-- MergeLine$Book.newLine(I)I -/
def cd_3 : List (List xI) := [[(0,1,2,1,0,0,0,0,[]), (1,3,34,0,0,4,25,0,[91]), (4,3,29,0,1,2,0,0,[]), (7,1,2,1,0,0,0,0,[]), (8,3,34,0,0,4,25,0,[91]), (11,3,0,2,0,0,0,1152,[]), (14,3,28,0,1,3,0,0,[]), (17,1,2,1,0,0,0,0,[]), (18,1,23,0,0,0,0,0,[]), (19,3,34,0,0,4,25,0,[91]), (22,1,0,0,0,0,0,1,[]), (23,1,8,0,0,0,0,0,[]), (24,3,36,0,0,4,25,0,[91]), (27,1,2,1,0,0,0,0,[]), (28,3,35,0,0,2,18,0,[89]), (31,1,2,1,0,0,0,0,[]), (32,3,34,0,0,4,25,0,[91]), (35,1,1,1,1,0,0,0,[]), (36,1,33,0,0,0,0,0,[]), (37,0,27,0,1,0,0,0,[])],
  [(37,1,2,1,0,0,0,0,[]), (38,3,34,0,0,4,25,0,[91]), (41,1,46,0,0,0,0,0,[])]]
/-- MergeLine$Book.append(II)V -/
def cd_4 : List (List xI) := [[(0,1,2,1,0,0,0,0,[]), (1,1,0,0,0,0,0,0,[]), (2,1,1,1,1,0,0,0,[]), (3,3,40,0,5,3,28,0,[347,336,337]), (6,0,27,0,1,0,0,0,[])],
  [(6,1,4,1,3,0,0,0,[]), (7,1,2,1,0,0,0,0,[]), (8,1,0,0,0,0,0,0,[]), (9,1,1,1,1,0,0,0,[]), (10,1,1,1,3,0,0,0,[]), (11,1,0,0,0,0,0,0,[]), (12,1,0,0,0,0,0,1,[]), (13,3,41,0,13,6,32,0,[348,349,350]), (16,0,27,0,2,0,0,0,[])],
  [(16,1,2,1,0,0,0,0,[]), (17,1,0,0,0,0,0,0,[]), (18,1,1,1,1,0,0,0,[]), (19,1,1,1,3,0,0,0,[]), (20,1,1,1,2,0,0,0,[]), (21,3,41,0,12,5,36,0,[355,356,357]), (24,0,27,0,3,0,0,0,[])],
  [(24,1,47,0,0,0,0,0,[])]]
/-- MergeLine$Book.lengthOf(II)I -/
def cd_5 : List (List xI) := [[(0,1,1,1,1,0,0,0,[]), (1,3,29,0,1,2,0,0,[]), (4,1,1,1,1,0,0,0,[]), (5,2,0,1,0,0,0,63,[]), (7,3,28,0,1,3,0,0,[]), (10,1,1,1,2,0,0,0,[]), (11,3,29,0,1,2,0,0,[]), (14,1,1,1,2,0,0,0,[]), (15,2,0,1,0,0,0,8,[]), (17,3,28,0,2,2,0,0,[]), (20,0,27,0,1,0,0,0,[])],
  [(20,1,0,0,0,0,0,0,[]), (21,1,46,0,0,0,0,0,[])],
  [(22,1,2,1,0,0,0,0,[]), (23,3,35,0,0,1,15,0,[88]), (26,1,1,1,1,0,0,0,[]), (27,2,0,1,0,0,0,8,[]), (29,1,10,0,0,0,0,0,[]), (30,1,1,1,2,0,0,0,[]), (31,1,8,0,0,0,0,0,[]), (32,1,32,0,0,0,0,0,[]), (33,1,46,0,0,0,0,0,[])]]
/-- MergeLine$Book.linesIn(I)I -/
def cd_6 : List (List xI) := [[(0,1,0,0,0,0,0,0,[]), (1,1,4,1,2,0,0,0,[]), (2,1,0,0,0,0,0,0,[]), (3,1,4,1,3,0,0,0,[]), (4,0,27,0,1,0,0,0,[])],
  [(4,1,1,1,3,0,0,0,[]), (5,2,0,1,0,0,0,8,[]), (7,3,28,0,3,3,0,0,[]), (10,1,1,1,2,0,0,0,[]), (11,1,2,1,0,0,0,0,[]), (12,1,1,1,1,0,0,0,[]), (13,1,1,1,3,0,0,0,[]), (14,3,40,0,5,3,28,0,[347,336,337]), (17,0,27,0,2,0,0,0,[])],
  [(17,1,8,0,0,0,0,0,[]), (18,1,4,1,2,0,0,0,[]), (19,3,7,0,3,0,0,1,[]), (22,3,26,0,1,0,0,0,[])],
  [(25,1,1,1,2,0,0,0,[]), (26,1,46,0,0,0,0,0,[])]]
/-- MergeLine$Book.markAt(III)I -/
def cd_7 : List (List xI) := [[(0,1,1,1,1,0,0,0,[]), (1,3,29,0,1,2,0,0,[]), (4,1,1,1,1,0,0,0,[]), (5,2,0,1,0,0,0,63,[]), (7,3,28,0,1,3,0,0,[]), (10,1,1,1,2,0,0,0,[]), (11,3,29,0,1,2,0,0,[]), (14,1,1,1,2,0,0,0,[]), (15,2,0,1,0,0,0,8,[]), (17,3,28,0,1,3,0,0,[]), (20,1,1,1,3,0,0,0,[]), (21,3,29,0,1,2,0,0,[]), (24,1,1,1,3,0,0,0,[]), (25,2,0,1,0,0,0,24,[]), (27,3,28,0,2,2,0,0,[]), (30,0,27,0,1,0,0,0,[])],
  [(30,1,0,0,0,0,0,0,[]), (31,1,46,0,0,0,0,0,[])],
  [(32,1,1,1,1,0,0,0,[]), (33,2,0,1,0,0,0,8,[]), (35,1,10,0,0,0,0,0,[]), (36,1,1,1,2,0,0,0,[]), (37,1,8,0,0,0,0,0,[]), (38,2,4,0,4,0,0,0,[]), (40,1,1,1,3,0,0,0,[]), (41,1,2,1,0,0,0,0,[]), (42,3,35,0,0,1,15,0,[88]), (45,2,1,0,4,0,0,0,[]), (47,1,32,0,0,0,0,0,[]), (48,3,28,0,3,3,0,0,[]), (51,1,2,1,0,0,0,0,[]), (52,3,35,0,0,0,9,0,[87]), (55,2,1,0,4,0,0,0,[]), (57,2,0,1,0,0,0,24,[]), (59,1,10,0,0,0,0,0,[]), (60,1,1,1,3,0,0,0,[]), (61,1,8,0,0,0,0,0,[]), (62,1,32,0,0,0,0,0,[]), (63,3,26,0,4,0,0,0,[])],
  [(66,1,0,0,0,0,0,0,[]), (67,0,27,0,4,0,0,0,[])],
  [(67,1,46,0,0,0,0,0,[])]]
/-- MergeLine$Book.valueOf(I)I -/
def cd_8 : List (List xI) := [[(0,1,1,1,1,0,0,0,[]), (1,3,29,0,1,5,0,0,[]), (4,1,1,1,1,0,0,0,[]), (5,3,0,2,0,0,0,1152,[]), (8,3,28,0,1,4,0,0,[]), (11,1,2,1,0,0,0,0,[]), (12,3,35,0,0,2,18,0,[89]), (15,1,1,1,1,0,0,0,[]), (16,1,32,0,0,0,0,0,[]), (17,3,26,0,2,0,0,0,[])],
  [(20,1,0,0,0,0,0,0,[]), (21,0,27,0,2,0,0,0,[])],
  [(21,1,46,0,0,0,0,0,[])]]
/-- MergeLine$Book.nameGivenBy(I)I -/
def cd_9 : List (List xI) := [[(0,1,1,1,1,0,0,0,[]), (1,3,29,0,1,5,0,0,[]), (4,1,1,1,1,0,0,0,[]), (5,3,0,2,0,0,0,1152,[]), (8,3,28,0,2,5,0,0,[]), (11,0,27,0,1,0,0,0,[])],
  [(11,1,0,0,0,0,0,(-1),[]), (12,1,46,0,0,0,0,0,[])],
  [(13,1,2,1,0,0,0,0,[]), (14,3,35,0,0,2,18,0,[89]), (17,1,1,1,1,0,0,0,[]), (18,1,32,0,0,0,0,0,[]), (19,3,0,2,0,0,0,1000,[]), (22,1,9,0,0,0,0,0,[]), (23,1,4,1,2,0,0,0,[]), (24,1,1,1,2,0,0,0,[]), (25,3,29,0,3,2,0,0,[]), (28,1,1,1,2,0,0,0,[]), (29,2,0,1,0,0,0,32,[]), (31,3,28,0,3,3,0,0,[]), (34,1,1,1,2,0,0,0,[]), (35,3,26,0,4,0,0,0,[])],
  [(38,1,0,0,0,0,0,(-1),[]), (39,0,27,0,4,0,0,0,[])],
  [(39,1,46,0,0,0,0,0,[])]]
/-- MergeLine$Book.nameAskedBy(I)I -/
def cd_10 : List (List xI) := [[(0,1,2,1,0,0,0,0,[]), (1,1,1,1,1,0,0,0,[]), (2,3,40,0,8,2,40,0,[442,423,424]), (5,0,27,0,1,0,0,0,[])],
  [(5,3,0,2,0,0,0,2000,[]), (8,1,9,0,0,0,0,0,[]), (9,1,4,1,2,0,0,0,[]), (10,1,1,1,2,0,0,0,[]), (11,3,29,0,2,2,0,0,[]), (14,1,1,1,2,0,0,0,[]), (15,2,0,1,0,0,0,32,[]), (17,3,28,0,2,3,0,0,[]), (20,1,1,1,2,0,0,0,[]), (21,3,26,0,3,0,0,0,[])],
  [(24,1,0,0,0,0,0,(-1),[]), (25,0,27,0,3,0,0,0,[])],
  [(25,1,46,0,0,0,0,0,[])]]
/-- MergeLine$Book.linesGiving(II)I -/
def cd_11 : List (List xI) := [[(0,1,0,0,0,0,0,0,[]), (1,1,4,1,3,0,0,0,[]), (2,1,0,0,0,0,0,0,[]), (3,2,4,0,4,0,0,0,[]), (5,0,27,0,1,0,0,0,[])],
  [(5,2,1,0,4,0,0,0,[]), (7,2,0,1,0,0,0,8,[]), (9,3,28,0,8,3,0,0,[]), (12,1,2,1,0,0,0,0,[]), (13,1,1,1,1,0,0,0,[]), (14,2,1,0,4,0,0,0,[]), (16,3,40,0,5,3,28,0,[347,336,337]), (19,0,27,0,2,0,0,0,[])],
  [(19,2,4,0,5,0,0,0,[]), (21,1,0,0,0,0,0,0,[]), (22,2,4,0,6,0,0,0,[]), (24,0,27,0,3,0,0,0,[])],
  [(24,2,1,0,6,0,0,0,[]), (26,2,1,0,5,0,0,0,[]), (28,3,28,0,7,3,0,0,[]), (31,1,2,1,0,0,0,0,[]), (32,1,2,1,0,0,0,0,[]), (33,1,1,1,1,0,0,0,[]), (34,2,1,0,4,0,0,0,[]), (36,2,1,0,6,0,0,0,[]), (38,3,40,0,7,4,44,0,[430,419,420]), (41,0,27,0,4,0,0,0,[])],
  [(41,3,40,0,9,2,48,0,[431,432,433]), (44,0,27,0,5,0,0,0,[])],
  [(44,1,1,1,2,0,0,0,[]), (45,3,28,0,6,1,0,0,[]), (48,3,7,0,3,0,0,1,[]), (51,0,27,0,6,0,0,0,[])],
  [(51,3,7,0,6,0,0,1,[]), (54,3,26,0,3,0,0,0,[])],
  [(57,3,7,0,4,0,0,1,[]), (60,3,26,0,1,0,0,0,[])],
  [(63,1,1,1,3,0,0,0,[]), (64,1,46,0,0,0,0,0,[])]]
/-- MergeLine$Book.setMark(IIII)V -/
def cd_12 : List (List xI) := [[(0,1,1,1,1,0,0,0,[]), (1,3,29,0,1,2,0,0,[]), (4,1,1,1,1,0,0,0,[]), (5,2,0,1,0,0,0,63,[]), (7,3,28,0,1,3,0,0,[]), (10,1,1,1,2,0,0,0,[]), (11,3,29,0,1,2,0,0,[]), (14,1,1,1,2,0,0,0,[]), (15,2,0,1,0,0,0,8,[]), (17,3,28,0,1,3,0,0,[]), (20,1,1,1,3,0,0,0,[]), (21,3,29,0,1,2,0,0,[]), (24,1,1,1,3,0,0,0,[]), (25,2,0,1,0,0,0,24,[]), (27,3,28,0,2,2,0,0,[]), (30,0,27,0,1,0,0,0,[])],
  [(30,1,47,0,0,0,0,0,[])],
  [(31,1,2,1,0,0,0,0,[]), (32,3,35,0,0,0,9,0,[87]), (35,1,1,1,1,0,0,0,[]), (36,2,0,1,0,0,0,8,[]), (38,1,10,0,0,0,0,0,[]), (39,1,1,1,2,0,0,0,[]), (40,1,8,0,0,0,0,0,[]), (41,2,0,1,0,0,0,24,[]), (43,1,10,0,0,0,0,0,[]), (44,1,1,1,3,0,0,0,[]), (45,1,8,0,0,0,0,0,[]), (46,2,1,0,4,0,0,0,[]), (48,1,33,0,0,0,0,0,[]), (49,1,47,0,0,0,0,0,[])]]
/-- MergeLine$Book.makeRoom(IIIII)V -/
def cd_13 : List (List xI) := [[(0,1,1,1,1,0,0,0,[]), (1,3,29,0,1,2,0,0,[]), (4,1,1,1,1,0,0,0,[]), (5,2,0,1,0,0,0,63,[]), (7,3,28,0,1,3,0,0,[]), (10,1,1,1,2,0,0,0,[]), (11,3,29,0,1,2,0,0,[]), (14,1,1,1,2,0,0,0,[]), (15,2,0,1,0,0,0,8,[]), (17,3,28,0,2,2,0,0,[]), (20,0,27,0,1,0,0,0,[])],
  [(20,1,47,0,0,0,0,0,[])],
  [(21,1,1,1,1,0,0,0,[]), (22,2,0,1,0,0,0,8,[]), (24,1,10,0,0,0,0,0,[]), (25,1,1,1,2,0,0,0,[]), (26,1,8,0,0,0,0,0,[]), (27,2,4,0,6,0,0,0,[]), (29,1,2,1,0,0,0,0,[]), (30,3,35,0,0,1,15,0,[88]), (33,2,1,0,6,0,0,0,[]), (35,1,32,0,0,0,0,0,[]), (36,1,1,1,3,0,0,0,[]), (37,1,9,0,0,0,0,0,[]), (38,2,1,0,4,0,0,0,[]), (40,1,9,0,0,0,0,0,[]), (41,2,4,0,7,0,0,0,[]), (43,1,1,1,3,0,0,0,[]), (44,3,29,0,3,2,0,0,[]), (47,2,1,0,4,0,0,0,[]), (49,3,29,0,3,2,0,0,[]), (52,2,1,0,5,0,0,0,[]), (54,3,29,0,3,2,0,0,[]), (57,2,1,0,7,0,0,0,[]), (59,3,29,0,4,3,0,0,[]), (62,0,27,0,3,0,0,0,[])],
  [(62,1,47,0,0,0,0,0,[])],
  [(63,1,1,1,3,0,0,0,[]), (64,2,1,0,4,0,0,0,[]), (66,1,8,0,0,0,0,0,[]), (67,2,1,0,7,0,0,0,[]), (69,1,8,0,0,0,0,0,[]), (70,2,0,1,0,0,0,24,[]), (72,3,28,0,5,4,0,0,[]), (75,1,1,1,3,0,0,0,[]), (76,2,1,0,5,0,0,0,[]), (78,1,8,0,0,0,0,0,[]), (79,2,1,0,7,0,0,0,[]), (81,1,8,0,0,0,0,0,[]), (82,2,0,1,0,0,0,24,[]), (84,3,28,0,6,5,0,0,[]), (87,0,27,0,5,0,0,0,[])],
  [(87,1,47,0,0,0,0,0,[])],
  [(88,2,1,0,6,0,0,0,[]), (90,2,0,1,0,0,0,24,[]), (92,1,10,0,0,0,0,0,[]), (93,1,1,1,3,0,0,0,[]), (94,1,8,0,0,0,0,0,[]), (95,2,4,0,8,0,0,0,[]), (97,1,2,1,0,0,0,0,[]), (98,3,35,0,0,0,9,0,[87]), (101,2,1,0,8,0,0,0,[]), (103,2,1,0,4,0,0,0,[]), (105,1,8,0,0,0,0,0,[]), (106,1,2,1,0,0,0,0,[]), (107,3,35,0,0,0,9,0,[87]), (110,2,1,0,8,0,0,0,[]), (112,2,1,0,5,0,0,0,[]), (114,1,8,0,0,0,0,0,[]), (115,2,1,0,7,0,0,0,[]), (117,3,44,0,0,0,51,0,[352]), (120,1,2,1,0,0,0,0,[]), (121,3,35,0,0,1,15,0,[88]), (124,2,1,0,6,0,0,0,[]), (126,1,1,1,3,0,0,0,[]), (127,2,1,0,5,0,0,0,[]), (129,1,8,0,0,0,0,0,[]), (130,2,1,0,7,0,0,0,[]), (132,1,8,0,0,0,0,0,[]), (133,1,33,0,0,0,0,0,[]), (134,1,47,0,0,0,0,0,[])]]
/-- MergeLine$Book.copySlot(II)V -/
def cd_14 : List (List xI) := [[(0,1,1,1,1,0,0,0,[]), (1,2,0,1,0,0,0,63,[]), (3,3,42,1,159,2,57,0,[692,329]), (6,0,27,0,1,0,0,0,[])],
  [(6,3,29,0,3,0,0,0,[]), (9,1,1,1,2,0,0,0,[]), (10,2,0,1,0,0,0,63,[]), (12,3,42,1,159,2,57,0,[692,329]), (15,0,27,0,2,0,0,0,[])],
  [(15,3,29,0,4,1,0,0,[]), (18,0,27,0,3,0,0,0,[])],
  [(18,1,47,0,0,0,0,0,[])],
  [(19,1,2,1,0,0,0,0,[]), (20,3,35,0,0,1,15,0,[88]), (23,1,1,1,1,0,0,0,[]), (24,2,0,1,0,0,0,8,[]), (26,1,10,0,0,0,0,0,[]), (27,1,2,1,0,0,0,0,[]), (28,3,35,0,0,1,15,0,[88]), (31,1,1,1,2,0,0,0,[]), (32,2,0,1,0,0,0,8,[]), (34,1,10,0,0,0,0,0,[]), (35,2,0,1,0,0,0,8,[]), (37,3,44,0,0,0,51,0,[352]), (40,1,2,1,0,0,0,0,[]), (41,3,35,0,0,0,9,0,[87]), (44,1,1,1,1,0,0,0,[]), (45,2,0,1,0,0,0,8,[]), (47,1,10,0,0,0,0,0,[]), (48,2,0,1,0,0,0,24,[]), (50,1,10,0,0,0,0,0,[]), (51,1,2,1,0,0,0,0,[]), (52,3,35,0,0,0,9,0,[87]), (55,1,1,1,2,0,0,0,[]), (56,2,0,1,0,0,0,8,[]), (58,1,10,0,0,0,0,0,[]), (59,2,0,1,0,0,0,24,[]), (61,1,10,0,0,0,0,0,[]), (62,3,0,2,0,0,0,192,[]), (65,3,44,0,0,0,51,0,[352]), (68,1,47,0,0,0,0,0,[])]]
/-- MergeLine$Book.takeTrial()V -/
def cd_15 : List (List xI) := [[(0,1,2,1,0,0,0,0,[]), (1,3,34,0,0,3,21,0,[90]), (4,2,0,1,0,0,0,60,[]), (6,3,28,0,1,3,0,0,[]), (9,1,2,1,0,0,0,0,[]), (10,1,23,0,0,0,0,0,[]), (11,3,34,0,0,3,21,0,[90]), (14,1,0,0,0,0,0,1,[]), (15,1,8,0,0,0,0,0,[]), (16,3,36,0,0,3,21,0,[90]), (19,0,27,0,1,0,0,0,[])],
  [(19,1,2,1,0,0,0,0,[]), (20,2,0,1,0,0,0,61,[]), (22,1,2,1,0,0,0,0,[]), (23,3,34,0,0,3,21,0,[90]), (26,3,41,0,14,3,61,0,[818,689,690]), (29,0,27,0,2,0,0,0,[])],
  [(29,1,47,0,0,0,0,0,[])]]
/-- MergeLine$Book.takeOver(LMergeLine$Book;)V -/
def cd_16 : List (List xI) := [[(0,1,2,1,1,0,0,0,[]), (1,3,35,0,0,0,9,0,[87]), (4,1,0,0,0,0,0,0,[]), (5,1,2,1,0,0,0,0,[]), (6,3,35,0,0,0,9,0,[87]), (9,1,0,0,0,0,0,0,[]), (10,1,2,1,0,0,0,0,[]), (11,3,35,0,0,0,9,0,[87]), (14,1,31,0,0,0,0,0,[]), (15,3,44,0,0,0,51,0,[352]), (18,1,2,1,1,0,0,0,[]), (19,3,35,0,0,1,15,0,[88]), (22,1,0,0,0,0,0,0,[]), (23,1,2,1,0,0,0,0,[]), (24,3,35,0,0,1,15,0,[88]), (27,1,0,0,0,0,0,0,[]), (28,1,2,1,0,0,0,0,[]), (29,3,35,0,0,1,15,0,[88]), (32,1,31,0,0,0,0,0,[]), (33,3,44,0,0,0,51,0,[352]), (36,1,2,1,1,0,0,0,[]), (37,3,35,0,0,2,18,0,[89]), (40,1,0,0,0,0,0,0,[]), (41,1,2,1,0,0,0,0,[]), (42,3,35,0,0,2,18,0,[89]), (45,1,0,0,0,0,0,0,[]), (46,1,2,1,0,0,0,0,[]), (47,3,35,0,0,2,18,0,[89]), (50,1,31,0,0,0,0,0,[]), (51,3,44,0,0,0,51,0,[352]), (54,1,2,1,0,0,0,0,[]), (55,1,2,1,1,0,0,0,[]), (56,3,34,0,0,3,21,0,[90]), (59,3,36,0,0,3,21,0,[90]), (62,1,2,1,0,0,0,0,[]), (63,1,2,1,1,0,0,0,[]), (64,3,34,0,0,4,25,0,[91]), (67,3,36,0,0,4,25,0,[91]), (70,1,47,0,0,0,0,0,[])]]
/-- MergeLine$Cells.<init>(I)V -/
def cd_17 : List (List xI) := [[(0,1,2,1,0,0,0,0,[]), (1,3,43,0,0,0,1,0,[115]), (4,1,2,1,0,0,0,0,[]), (5,1,1,1,1,0,0,0,[]), (6,3,29,0,1,5,0,0,[]), (9,1,1,1,1,0,0,0,[]), (10,3,26,0,2,0,0,0,[])],
  [(13,1,0,0,0,0,0,0,[]), (14,0,27,0,2,0,0,0,[])],
  [(14,2,39,0,0,0,0,0,[]), (16,3,37,0,1,0,7,0,[116]), (19,1,47,0,0,0,0,0,[])]]
/-- MergeLine$Cells.get(I)I -/
def cd_18 : List (List xI) := [[(0,1,1,1,1,0,0,0,[]), (1,3,29,0,1,2,0,0,[]), (4,1,1,1,1,0,0,0,[]), (5,1,2,1,0,0,0,0,[]), (6,3,35,0,1,0,7,0,[116]), (9,1,31,0,0,0,0,0,[]), (10,3,28,0,1,3,0,0,[]), (13,1,2,1,0,0,0,0,[]), (14,3,35,0,1,0,7,0,[116]), (17,1,1,1,1,0,0,0,[]), (18,1,32,0,0,0,0,0,[]), (19,3,26,0,2,0,0,0,[])],
  [(22,1,0,0,0,0,0,0,[]), (23,0,27,0,2,0,0,0,[])],
  [(23,1,46,0,0,0,0,0,[])]]
/-- MergeLine$Cells.set(II)V -/
def cd_19 : List (List xI) := [[(0,1,1,1,1,0,0,0,[]), (1,3,29,0,1,2,0,0,[]), (4,1,1,1,1,0,0,0,[]), (5,1,2,1,0,0,0,0,[]), (6,3,35,0,1,0,7,0,[116]), (9,1,31,0,0,0,0,0,[]), (10,3,28,0,1,3,0,0,[]), (13,1,2,1,0,0,0,0,[]), (14,3,35,0,1,0,7,0,[116]), (17,1,1,1,1,0,0,0,[]), (18,1,1,1,2,0,0,0,[]), (19,1,33,0,0,0,0,0,[]), (20,0,27,0,1,0,0,0,[])],
  [(20,1,47,0,0,0,0,0,[])]]
/-- MergeLine$Cells.move(III)V -/
def cd_20 : List (List xI) := [[(0,1,1,1,3,0,0,0,[]), (1,3,29,0,1,5,0,0,[]), (4,1,1,1,1,0,0,0,[]), (5,3,29,0,1,2,0,0,[]), (8,1,1,1,2,0,0,0,[]), (9,3,29,0,2,3,0,0,[]), (12,0,27,0,1,0,0,0,[])],
  [(12,1,47,0,0,0,0,0,[])],
  [(13,1,1,1,1,0,0,0,[]), (14,1,2,1,0,0,0,0,[]), (15,3,35,0,1,0,7,0,[116]), (18,1,31,0,0,0,0,0,[]), (19,1,1,1,3,0,0,0,[]), (20,1,9,0,0,0,0,0,[]), (21,3,28,0,3,4,0,0,[]), (24,1,1,1,2,0,0,0,[]), (25,1,2,1,0,0,0,0,[]), (26,3,35,0,1,0,7,0,[116]), (29,1,31,0,0,0,0,0,[]), (30,1,1,1,3,0,0,0,[]), (31,1,9,0,0,0,0,0,[]), (32,3,28,0,4,5,0,0,[]), (35,0,27,0,3,0,0,0,[])],
  [(35,1,47,0,0,0,0,0,[])],
  [(36,1,2,1,0,0,0,0,[]), (37,3,35,0,1,0,7,0,[116]), (40,1,1,1,1,0,0,0,[]), (41,1,2,1,0,0,0,0,[]), (42,3,35,0,1,0,7,0,[116]), (45,1,1,1,2,0,0,0,[]), (46,1,1,1,3,0,0,0,[]), (47,3,44,0,0,0,13,0,[756]), (50,1,47,0,0,0,0,0,[])]]
/-- MergeLine$Cells.takeOver(LMergeLine$Cells;)V -/
def cd_21 : List (List xI) := [[(0,1,2,1,1,0,0,0,[]), (1,3,35,0,1,0,7,0,[116]), (4,1,0,0,0,0,0,0,[]), (5,1,2,1,0,0,0,0,[]), (6,3,35,0,1,0,7,0,[116]), (9,1,0,0,0,0,0,0,[]), (10,1,2,1,0,0,0,0,[]), (11,3,35,0,1,0,7,0,[116]), (14,1,31,0,0,0,0,0,[]), (15,1,2,1,1,0,0,0,[]), (16,3,35,0,1,0,7,0,[116]), (19,1,31,0,0,0,0,0,[]), (20,3,45,0,0,0,19,0,[940]), (23,3,44,0,0,0,13,0,[756]), (26,1,47,0,0,0,0,0,[])]]
/-- MergeLine$Changes.<init>()V -/
def cd_22 : List (List xI) := [[(0,1,2,1,0,0,0,0,[]), (1,3,43,0,0,0,3,0,[109]), (4,1,2,1,0,0,0,0,[]), (5,3,38,0,1,0,9,0,[110]), (8,1,23,0,0,0,0,0,[]), (9,2,0,1,0,0,0,61,[]), (11,3,48,0,17,2,11,0,[112,113]), (14,0,27,0,1,0,0,0,[])],
  [(14,3,37,0,2,0,14,0,[150]), (17,1,2,1,0,0,0,0,[]), (18,3,38,0,1,0,9,0,[110]), (21,1,23,0,0,0,0,0,[]), (22,2,0,1,0,0,0,61,[]), (24,3,48,0,17,2,11,0,[112,113]), (27,0,27,0,2,0,0,0,[])],
  [(27,3,37,0,2,1,20,0,[151]), (30,1,2,1,0,0,0,0,[]), (31,3,38,0,1,0,9,0,[110]), (34,1,23,0,0,0,0,0,[]), (35,2,0,1,0,0,0,61,[]), (37,3,48,0,17,2,11,0,[112,113]), (40,0,27,0,3,0,0,0,[])],
  [(40,3,37,0,2,2,23,0,[152]), (43,1,2,1,0,0,0,0,[]), (44,3,38,0,1,0,9,0,[110]), (47,1,23,0,0,0,0,0,[]), (48,2,0,1,0,0,0,61,[]), (50,3,48,0,17,2,11,0,[112,113]), (53,0,27,0,4,0,0,0,[])],
  [(53,3,37,0,2,3,26,0,[153]), (56,1,2,1,0,0,0,0,[]), (57,3,38,0,1,0,9,0,[110]), (60,1,23,0,0,0,0,0,[]), (61,2,0,1,0,0,0,61,[]), (63,3,48,0,17,2,11,0,[112,113]), (66,0,27,0,5,0,0,0,[])],
  [(66,3,37,0,2,4,29,0,[154]), (69,1,2,1,0,0,0,0,[]), (70,3,38,0,1,0,9,0,[110]), (73,1,23,0,0,0,0,0,[]), (74,2,0,1,0,0,0,61,[]), (76,3,48,0,17,2,11,0,[112,113]), (79,0,27,0,6,0,0,0,[])],
  [(79,3,37,0,2,5,32,0,[155]), (82,1,2,1,0,0,0,0,[]), (83,3,38,0,1,0,9,0,[110]), (86,1,23,0,0,0,0,0,[]), (87,2,0,1,0,0,0,61,[]), (89,3,48,0,17,2,11,0,[112,113]), (92,0,27,0,7,0,0,0,[])],
  [(92,3,37,0,2,6,35,0,[156]), (95,1,2,1,0,0,0,0,[]), (96,3,38,0,1,0,9,0,[110]), (99,1,23,0,0,0,0,0,[]), (100,2,0,1,0,0,0,61,[]), (102,3,48,0,17,2,11,0,[112,113]), (105,0,27,0,8,0,0,0,[])],
  [(105,3,37,0,2,7,38,0,[157]), (108,1,2,1,0,0,0,0,[]), (109,3,38,0,3,0,41,0,[120]), (112,1,23,0,0,0,0,0,[]), (113,3,48,1,50,1,43,0,[122,123]), (116,0,27,0,9,0,0,0,[])],
  [(116,3,37,0,2,8,44,0,[158]), (119,1,2,1,0,0,0,0,[]), (120,1,0,0,0,0,0,0,[]), (121,3,36,0,2,9,48,0,[159]), (124,1,47,0,0,0,0,0,[])]]
/-- MergeLine$Changes.made()I -/
def cd_23 : List (List xI) := [[(0,1,2,1,0,0,0,0,[]), (1,3,34,0,2,9,48,0,[159]), (4,1,46,0,0,0,0,0,[])]]
/-- MergeLine$Changes.begin(II)I -/
def cd_24 : List (List xI) := [[(0,1,2,1,0,0,0,0,[]), (1,3,35,0,2,0,14,0,[150]), (4,1,2,1,0,0,0,0,[]), (5,3,34,0,2,9,48,0,[159]), (8,1,1,1,1,0,0,0,[]), (9,3,41,1,19,3,52,0,[457,375,376]), (12,0,27,0,1,0,0,0,[])],
  [(12,1,2,1,0,0,0,0,[]), (13,3,35,0,2,1,20,0,[151]), (16,1,2,1,0,0,0,0,[]), (17,3,34,0,2,9,48,0,[159]), (20,1,0,0,0,0,0,0,[]), (21,3,41,1,19,3,52,0,[457,375,376]), (24,0,27,0,2,0,0,0,[])],
  [(24,1,2,1,0,0,0,0,[]), (25,3,35,0,2,2,23,0,[152]), (28,1,2,1,0,0,0,0,[]), (29,3,34,0,2,9,48,0,[159]), (32,1,1,1,2,0,0,0,[]), (33,3,41,1,19,3,52,0,[457,375,376]), (36,0,27,0,3,0,0,0,[])],
  [(36,1,2,1,0,0,0,0,[]), (37,3,35,0,2,3,26,0,[153]), (40,1,2,1,0,0,0,0,[]), (41,3,34,0,2,9,48,0,[159]), (44,1,0,0,0,0,0,(-1),[]), (45,3,41,1,19,3,52,0,[457,375,376]), (48,0,27,0,4,0,0,0,[])],
  [(48,1,2,1,0,0,0,0,[]), (49,3,35,0,2,4,29,0,[154]), (52,1,2,1,0,0,0,0,[]), (53,3,34,0,2,9,48,0,[159]), (56,1,0,0,0,0,0,(-1),[]), (57,3,41,1,19,3,52,0,[457,375,376]), (60,0,27,0,5,0,0,0,[])],
  [(60,1,2,1,0,0,0,0,[]), (61,3,35,0,2,5,32,0,[155]), (64,1,2,1,0,0,0,0,[]), (65,3,34,0,2,9,48,0,[159]), (68,1,0,0,0,0,0,(-1),[]), (69,3,41,1,19,3,52,0,[457,375,376]), (72,0,27,0,6,0,0,0,[])],
  [(72,1,2,1,0,0,0,0,[]), (73,3,35,0,2,6,35,0,[156]), (76,1,2,1,0,0,0,0,[]), (77,3,34,0,2,9,48,0,[159]), (80,1,0,0,0,0,0,0,[]), (81,3,41,1,19,3,52,0,[457,375,376]), (84,0,27,0,7,0,0,0,[])],
  [(84,1,2,1,0,0,0,0,[]), (85,3,35,0,2,7,38,0,[157]), (88,1,2,1,0,0,0,0,[]), (89,3,34,0,2,9,48,0,[159]), (92,1,0,0,0,0,0,0,[]), (93,3,41,1,19,3,52,0,[457,375,376]), (96,0,27,0,8,0,0,0,[])],
  [(96,1,2,1,0,0,0,0,[]), (97,3,34,0,2,9,48,0,[159]), (100,1,46,0,0,0,0,0,[])]]
/-- MergeLine$Changes.finish()I -/
def cd_25 : List (List xI) := [[(0,1,2,1,0,0,0,0,[]), (1,3,34,0,2,9,48,0,[159]), (4,2,0,1,0,0,0,60,[]), (6,3,28,0,1,3,0,0,[]), (9,1,2,1,0,0,0,0,[]), (10,1,23,0,0,0,0,0,[]), (11,3,34,0,2,9,48,0,[159]), (14,1,0,0,0,0,0,1,[]), (15,1,8,0,0,0,0,0,[]), (16,3,36,0,2,9,48,0,[159]), (19,0,27,0,1,0,0,0,[])],
  [(19,1,2,1,0,0,0,0,[]), (20,3,34,0,2,9,48,0,[159]), (23,1,0,0,0,0,0,1,[]), (24,1,9,0,0,0,0,0,[]), (25,1,46,0,0,0,0,0,[])]]
/-- MergeLine$Changes.kindOf(I)I -/
def cd_26 : List (List xI) := [[(0,1,2,1,0,0,0,0,[]), (1,3,35,0,2,0,14,0,[150]), (4,1,1,1,1,0,0,0,[]), (5,3,40,1,18,2,56,0,[474,411,412]), (8,0,27,0,1,0,0,0,[])],
  [(8,1,46,0,0,0,0,0,[])]]
/-- MergeLine$Changes.standOf(I)I -/
def cd_27 : List (List xI) := [[(0,1,2,1,0,0,0,0,[]), (1,3,35,0,2,1,20,0,[151]), (4,1,1,1,1,0,0,0,[]), (5,3,40,1,18,2,56,0,[474,411,412]), (8,0,27,0,1,0,0,0,[])],
  [(8,1,46,0,0,0,0,0,[])]]
/-- MergeLine$Changes.setStand(II)V -/
def cd_28 : List (List xI) := [[(0,1,2,1,0,0,0,0,[]), (1,3,35,0,2,1,20,0,[151]), (4,1,1,1,1,0,0,0,[]), (5,1,1,1,2,0,0,0,[]), (6,3,41,1,19,3,52,0,[457,375,376]), (9,0,27,0,1,0,0,0,[])],
  [(9,1,47,0,0,0,0,0,[])]]
/-- MergeLine$Changes.takenWith(I)I -/
def cd_29 : List (List xI) := [[(0,1,2,1,0,0,0,0,[]), (1,3,35,0,2,3,26,0,[153]), (4,1,1,1,1,0,0,0,[]), (5,3,40,1,18,2,56,0,[474,411,412]), (8,0,27,0,1,0,0,0,[])],
  [(8,1,46,0,0,0,0,0,[])]]
/-- MergeLine$Changes.setTakenWith(II)V -/
def cd_30 : List (List xI) := [[(0,1,2,1,0,0,0,0,[]), (1,3,35,0,2,3,26,0,[153]), (4,1,1,1,1,0,0,0,[]), (5,1,1,1,2,0,0,0,[]), (6,3,41,1,19,3,52,0,[457,375,376]), (9,0,27,0,1,0,0,0,[])],
  [(9,1,47,0,0,0,0,0,[])]]
/-- MergeLine$Changes.failedBy(I)I -/
def cd_31 : List (List xI) := [[(0,1,2,1,0,0,0,0,[]), (1,3,35,0,2,4,29,0,[154]), (4,1,1,1,1,0,0,0,[]), (5,3,40,1,18,2,56,0,[474,411,412]), (8,0,27,0,1,0,0,0,[])],
  [(8,1,46,0,0,0,0,0,[])]]
/-- MergeLine$Changes.setFailedBy(II)V -/
def cd_32 : List (List xI) := [[(0,1,2,1,0,0,0,0,[]), (1,3,35,0,2,4,29,0,[154]), (4,1,1,1,1,0,0,0,[]), (5,1,1,1,2,0,0,0,[]), (6,3,41,1,19,3,52,0,[457,375,376]), (9,0,27,0,1,0,0,0,[])],
  [(9,1,47,0,0,0,0,0,[])]]
/-- MergeLine$Changes.editsOf(I)I -/
def cd_33 : List (List xI) := [[(0,1,2,1,0,0,0,0,[]), (1,3,35,0,2,7,38,0,[157]), (4,1,1,1,1,0,0,0,[]), (5,3,40,1,18,2,56,0,[474,411,412]), (8,0,27,0,1,0,0,0,[])],
  [(8,1,46,0,0,0,0,0,[])]]
/-- MergeLine$Changes.partnerOf(I)I -/
def cd_34 : List (List xI) := [[(0,1,2,1,0,0,0,0,[]), (1,3,35,0,2,5,32,0,[155]), (4,1,1,1,1,0,0,0,[]), (5,3,40,1,18,2,56,0,[474,411,412]), (8,0,27,0,1,0,0,0,[])],
  [(8,1,46,0,0,0,0,0,[])]]
/-- MergeLine$Changes.canPair(I)Z -/
def cd_35 : List (List xI) := [[(0,1,2,1,0,0,0,0,[]), (1,3,35,0,2,1,20,0,[151]), (4,1,1,1,1,0,0,0,[]), (5,3,40,1,18,2,56,0,[474,411,412]), (8,0,27,0,1,0,0,0,[])],
  [(8,3,29,0,3,1,0,0,[]), (11,1,2,1,0,0,0,0,[]), (12,3,35,0,2,5,32,0,[155]), (15,1,1,1,1,0,0,0,[]), (16,3,40,1,18,2,56,0,[474,411,412]), (19,0,27,0,2,0,0,0,[])],
  [(19,1,0,0,0,0,0,(-1),[]), (20,3,28,0,3,1,0,0,[]), (23,1,0,0,0,0,0,1,[]), (24,3,26,0,4,0,0,0,[])],
  [(27,1,0,0,0,0,0,0,[]), (28,0,27,0,4,0,0,0,[])],
  [(28,1,46,0,1,0,0,0,[])]]
/-- MergeLine$Changes.join(II)V -/
def cd_36 : List (List xI) := [[(0,1,2,1,0,0,0,0,[]), (1,3,35,0,2,5,32,0,[155]), (4,1,1,1,1,0,0,0,[]), (5,1,1,1,2,0,0,0,[]), (6,3,41,1,19,3,52,0,[457,375,376]), (9,0,27,0,1,0,0,0,[])],
  [(9,1,2,1,0,0,0,0,[]), (10,3,35,0,2,5,32,0,[155]), (13,1,1,1,2,0,0,0,[]), (14,1,1,1,1,0,0,0,[]), (15,3,41,1,19,3,52,0,[457,375,376]), (18,0,27,0,2,0,0,0,[])],
  [(18,1,47,0,0,0,0,0,[])]]
/-- MergeLine$Changes.swapHand(II)I -/
def cd_37 : List (List xI) := [[(0,1,2,1,0,0,0,0,[]), (1,3,35,0,2,6,35,0,[156]), (4,1,1,1,1,0,0,0,[]), (5,3,40,1,18,2,56,0,[474,411,412]), (8,0,27,0,1,0,0,0,[])],
  [(8,1,4,1,3,0,0,0,[]), (9,1,2,1,0,0,0,0,[]), (10,3,35,0,2,6,35,0,[156]), (13,1,1,1,1,0,0,0,[]), (14,1,1,1,2,0,0,0,[]), (15,3,41,1,19,3,52,0,[457,375,376]), (18,0,27,0,2,0,0,0,[])],
  [(18,1,1,1,3,0,0,0,[]), (19,1,46,0,0,0,0,0,[])]]
/-- MergeLine$Changes.isOpen(II)Z -/
def cd_38 : List (List xI) := [[(0,1,2,1,0,0,0,0,[]), (1,3,35,0,2,1,20,0,[151]), (4,1,1,1,1,0,0,0,[]), (5,3,40,1,18,2,56,0,[474,411,412]), (8,0,27,0,1,0,0,0,[])],
  [(8,3,29,0,4,1,0,0,[]), (11,1,2,1,0,0,0,0,[]), (12,3,35,0,2,2,23,0,[152]), (15,1,1,1,1,0,0,0,[]), (16,3,40,1,18,2,56,0,[474,411,412]), (19,0,27,0,2,0,0,0,[])],
  [(19,1,1,1,2,0,0,0,[]), (20,3,28,0,4,1,0,0,[]), (23,1,2,1,0,0,0,0,[]), (24,3,35,0,2,0,14,0,[150]), (27,1,1,1,1,0,0,0,[]), (28,3,40,1,18,2,56,0,[474,411,412]), (31,0,27,0,3,0,0,0,[])],
  [(31,1,0,0,0,0,0,4,[]), (32,3,28,0,4,0,0,0,[]), (35,1,0,0,0,0,0,1,[]), (36,3,26,0,5,0,0,0,[])],
  [(39,1,0,0,0,0,0,0,[]), (40,0,27,0,5,0,0,0,[])],
  [(40,1,46,0,1,0,0,0,[])]]
/-- MergeLine$Changes.hasFile(II)Z -/
def cd_39 : List (List xI) := [[(0,1,2,1,0,0,0,0,[]), (1,1,1,1,1,0,0,0,[]), (2,3,40,2,33,2,60,0,[479,480,481]), (5,0,27,0,1,0,0,0,[])],
  [(5,1,4,1,3,0,0,0,[]), (6,1,0,0,0,0,0,0,[]), (7,2,4,0,4,0,0,0,[]), (9,0,27,0,2,0,0,0,[])],
  [(9,2,1,0,4,0,0,0,[]), (11,1,1,1,3,0,0,0,[]), (12,3,28,0,5,3,0,0,[]), (15,1,2,1,0,0,0,0,[]), (16,3,35,0,2,8,44,0,[158]), (19,1,1,1,1,0,0,0,[]), (20,1,0,0,0,0,0,4,[]), (21,1,10,0,0,0,0,0,[]), (22,2,1,0,4,0,0,0,[]), (24,1,8,0,0,0,0,0,[]), (25,3,40,3,52,2,63,0,[483,484,485]), (28,0,27,0,3,0,0,0,[])],
  [(28,1,1,1,2,0,0,0,[]), (29,3,28,0,4,1,0,0,[]), (32,1,0,0,0,0,0,1,[]), (33,1,46,0,1,0,0,0,[])],
  [(34,3,7,0,4,0,0,1,[]), (37,3,26,0,2,0,0,0,[])],
  [(40,1,0,0,0,0,0,0,[]), (41,1,46,0,1,0,0,0,[])]]
/-- MergeLine$Changes.addEdit(IIII)I -/
def cd_40 : List (List xI) := [[(0,1,1,1,1,0,0,0,[]), (1,1,0,0,0,0,0,4,[]), (2,1,10,0,0,0,0,0,[]), (3,1,2,1,0,0,0,0,[]), (4,1,1,1,1,0,0,0,[]), (5,3,40,2,33,2,60,0,[479,480,481]), (8,0,27,0,1,0,0,0,[])],
  [(8,1,8,0,0,0,0,0,[]), (9,2,4,0,5,0,0,0,[]), (11,1,2,1,0,0,0,0,[]), (12,3,35,0,2,8,44,0,[158]), (15,2,1,0,5,0,0,0,[]), (17,1,1,1,2,0,0,0,[]), (18,1,1,1,3,0,0,0,[]), (19,2,1,0,4,0,0,0,[]), (21,3,41,3,51,5,66,0,[493,494,495]), (24,0,27,0,2,0,0,0,[])],
  [(24,1,2,1,0,0,0,0,[]), (25,3,35,0,2,7,38,0,[157]), (28,1,1,1,1,0,0,0,[]), (29,1,2,1,0,0,0,0,[]), (30,1,1,1,1,0,0,0,[]), (31,3,40,2,33,2,60,0,[479,480,481]), (34,0,27,0,3,0,0,0,[])],
  [(34,1,0,0,0,0,0,1,[]), (35,1,8,0,0,0,0,0,[]), (36,3,41,1,19,3,52,0,[457,375,376]), (39,0,27,0,4,0,0,0,[])],
  [(39,2,1,0,5,0,0,0,[]), (41,1,46,0,0,0,0,0,[])]]
/-- MergeLine$Changes.takeLines(ILMergeLine$Book;I)V -/
def cd_41 : List (List xI) := [[(0,1,2,1,0,0,0,0,[]), (1,3,35,0,2,8,44,0,[158]), (4,1,1,1,1,0,0,0,[]), (5,1,2,1,2,0,0,0,[]), (6,1,1,1,3,0,0,0,[]), (7,3,41,3,53,4,70,0,[502,503,504]), (10,0,27,0,1,0,0,0,[])],
  [(10,1,47,0,0,0,0,0,[])]]
/-- MergeLine$Changes.putLines(ILMergeLine$Book;I)V -/
def cd_42 : List (List xI) := [[(0,1,2,1,0,0,0,0,[]), (1,3,35,0,2,8,44,0,[158]), (4,1,1,1,1,0,0,0,[]), (5,1,2,1,2,0,0,0,[]), (6,1,1,1,3,0,0,0,[]), (7,3,41,3,54,4,74,0,[512,513,514]), (10,0,27,0,1,0,0,0,[])],
  [(10,1,47,0,0,0,0,0,[])]]
/-- MergeLine$Changes.turnEdits(II)V -/
def cd_43 : List (List xI) := [[(0,1,2,1,0,0,0,0,[]), (1,1,1,1,1,0,0,0,[]), (2,3,40,2,33,2,60,0,[479,480,481]), (5,0,27,0,1,0,0,0,[])],
  [(5,1,4,1,3,0,0,0,[]), (6,1,0,0,0,0,0,0,[]), (7,2,4,0,4,0,0,0,[]), (9,0,27,0,2,0,0,0,[])],
  [(9,2,1,0,4,0,0,0,[]), (11,1,1,1,3,0,0,0,[]), (12,3,28,0,4,3,0,0,[]), (15,1,2,1,0,0,0,0,[]), (16,3,35,0,2,8,44,0,[158]), (19,1,1,1,1,0,0,0,[]), (20,1,0,0,0,0,0,4,[]), (21,1,10,0,0,0,0,0,[]), (22,2,1,0,4,0,0,0,[]), (24,1,8,0,0,0,0,0,[]), (25,1,1,1,2,0,0,0,[]), (26,1,0,0,0,0,0,4,[]), (27,1,10,0,0,0,0,0,[]), (28,2,1,0,4,0,0,0,[]), (30,1,8,0,0,0,0,0,[]), (31,3,41,3,55,3,77,0,[529,530,531]), (34,0,27,0,3,0,0,0,[])],
  [(34,3,7,0,4,0,0,1,[]), (37,3,26,0,2,0,0,0,[])],
  [(40,1,2,1,0,0,0,0,[]), (41,3,35,0,2,7,38,0,[157]), (44,1,1,1,2,0,0,0,[]), (45,1,1,1,3,0,0,0,[]), (46,3,41,1,19,3,52,0,[457,375,376]), (49,0,27,0,5,0,0,0,[])],
  [(49,1,47,0,0,0,0,0,[])]]
/-- MergeLine$Changes.isFree(I)Z -/
def cd_44 : List (List xI) := [[(0,1,2,1,0,0,0,0,[]), (1,3,35,0,2,1,20,0,[151]), (4,1,1,1,1,0,0,0,[]), (5,3,40,1,18,2,56,0,[474,411,412]), (8,0,27,0,1,0,0,0,[])],
  [(8,1,0,0,0,0,0,1,[]), (9,3,28,0,5,1,0,0,[]), (12,1,2,1,0,0,0,0,[]), (13,3,35,0,2,0,14,0,[150]), (16,1,1,1,1,0,0,0,[]), (17,3,40,1,18,2,56,0,[474,411,412]), (20,0,27,0,2,0,0,0,[])],
  [(20,1,0,0,0,0,0,3,[]), (21,3,28,0,4,1,0,0,[]), (24,1,2,1,0,0,0,0,[]), (25,3,35,0,2,6,35,0,[156]), (28,1,1,1,1,0,0,0,[]), (29,3,40,1,18,2,56,0,[474,411,412]), (32,0,27,0,3,0,0,0,[])],
  [(32,1,0,0,0,0,0,1,[]), (33,3,28,0,5,1,0,0,[]), (36,0,27,0,4,0,0,0,[])],
  [(36,1,0,0,0,0,0,1,[]), (37,3,26,0,6,0,0,0,[])],
  [(40,1,0,0,0,0,0,0,[]), (41,0,27,0,6,0,0,0,[])],
  [(41,1,46,0,1,0,0,0,[])]]
/-- MergeLine$Changes.isUnitOf(II)Z -/
def cd_45 : List (List xI) := [[(0,1,2,1,0,0,0,0,[]), (1,3,35,0,2,5,32,0,[155]), (4,1,1,1,1,0,0,0,[]), (5,3,40,1,18,2,56,0,[474,411,412]), (8,0,27,0,1,0,0,0,[])],
  [(8,1,4,1,3,0,0,0,[]), (9,1,2,1,0,0,0,0,[]), (10,3,35,0,2,0,14,0,[150]), (13,1,1,1,1,0,0,0,[]), (14,3,40,1,18,2,56,0,[474,411,412]), (17,0,27,0,2,0,0,0,[])],
  [(17,1,1,1,2,0,0,0,[]), (18,3,28,0,4,0,0,0,[]), (21,1,1,1,3,0,0,0,[]), (22,1,0,0,0,0,0,(-1),[]), (23,3,28,0,5,0,0,0,[]), (26,1,2,1,0,0,0,0,[]), (27,3,35,0,2,0,14,0,[150]), (30,1,1,1,3,0,0,0,[]), (31,3,40,1,18,2,56,0,[474,411,412]), (34,0,27,0,3,0,0,0,[])],
  [(34,1,1,1,2,0,0,0,[]), (35,3,28,0,5,1,0,0,[]), (38,0,27,0,4,0,0,0,[])],
  [(38,1,0,0,0,0,0,1,[]), (39,3,26,0,6,0,0,0,[])],
  [(42,1,0,0,0,0,0,0,[]), (43,0,27,0,6,0,0,0,[])],
  [(43,1,46,0,1,0,0,0,[])]]
/-- MergeLine$Changes.fitsOn(ILMergeLine$Book;I)Z -/
def cd_46 : List (List xI) := [[(0,1,2,1,0,0,0,0,[]), (1,1,1,1,1,0,0,0,[]), (2,3,40,2,33,2,60,0,[479,480,481]), (5,0,27,0,1,0,0,0,[])],
  [(5,2,4,0,4,0,0,0,[]), (7,1,0,0,0,0,0,0,[]), (8,2,4,0,5,0,0,0,[]), (10,0,27,0,2,0,0,0,[])],
  [(10,2,1,0,5,0,0,0,[]), (12,2,1,0,4,0,0,0,[]), (14,3,28,0,5,3,0,0,[]), (17,1,2,1,0,0,0,0,[]), (18,3,35,0,2,8,44,0,[158]), (21,1,1,1,1,0,0,0,[]), (22,1,0,0,0,0,0,4,[]), (23,1,10,0,0,0,0,0,[]), (24,2,1,0,5,0,0,0,[]), (26,1,8,0,0,0,0,0,[]), (27,1,2,1,2,0,0,0,[]), (28,1,1,1,3,0,0,0,[]), (29,3,40,3,56,4,80,0,[537,538,539]), (32,0,27,0,3,0,0,0,[])],
  [(32,1,0,0,0,0,0,(-1),[]), (33,3,28,0,4,1,0,0,[]), (36,1,0,0,0,0,0,0,[]), (37,1,46,0,1,0,0,0,[])],
  [(38,3,7,0,5,0,0,1,[]), (41,3,26,0,2,0,0,0,[])],
  [(44,1,0,0,0,0,0,1,[]), (45,1,46,0,1,0,0,0,[])]]
/-- MergeLine$Changes.comesOn(ILMergeLine$Book;I)Z -/
def cd_47 : List (List xI) := [[(0,1,2,1,0,0,0,0,[]), (1,1,1,1,1,0,0,0,[]), (2,3,40,2,33,2,60,0,[479,480,481]), (5,0,27,0,1,0,0,0,[])],
  [(5,2,4,0,4,0,0,0,[]), (7,1,0,0,0,0,0,0,[]), (8,2,4,0,5,0,0,0,[]), (10,0,27,0,2,0,0,0,[])],
  [(10,2,1,0,5,0,0,0,[]), (12,2,1,0,4,0,0,0,[]), (14,3,28,0,6,3,0,0,[]), (17,1,2,1,0,0,0,0,[]), (18,3,35,0,2,8,44,0,[158]), (21,1,1,1,1,0,0,0,[]), (22,1,0,0,0,0,0,4,[]), (23,1,10,0,0,0,0,0,[]), (24,2,1,0,5,0,0,0,[]), (26,1,8,0,0,0,0,0,[]), (27,1,2,1,2,0,0,0,[]), (28,1,1,1,3,0,0,0,[]), (29,3,40,3,56,4,80,0,[537,538,539]), (32,0,27,0,3,0,0,0,[])],
  [(32,2,4,0,6,0,0,0,[]), (34,2,1,0,6,0,0,0,[]), (36,1,0,0,0,0,0,(-1),[]), (37,3,28,0,4,1,0,0,[]), (40,1,0,0,0,0,0,0,[]), (41,1,46,0,1,0,0,0,[])],
  [(42,1,2,1,0,0,0,0,[]), (43,3,35,0,2,8,44,0,[158]), (46,1,1,1,1,0,0,0,[]), (47,1,0,0,0,0,0,4,[]), (48,1,10,0,0,0,0,0,[]), (49,2,1,0,5,0,0,0,[]), (51,1,8,0,0,0,0,0,[]), (52,1,2,1,2,0,0,0,[]), (53,1,1,1,3,0,0,0,[]), (54,2,1,0,6,0,0,0,[]), (56,3,41,3,57,5,84,0,[705,706,707]), (59,0,27,0,5,0,0,0,[])],
  [(59,3,7,0,5,0,0,1,[]), (62,3,26,0,2,0,0,0,[])],
  [(65,1,0,0,0,0,0,1,[]), (66,1,46,0,1,0,0,0,[])]]
/-- MergeLine$Changes.meets(IIILMergeLine$Book;)Z -/
def cd_48 : List (List xI) := [[(0,1,2,1,0,0,0,0,[]), (1,1,1,1,1,0,0,0,[]), (2,3,40,2,33,2,60,0,[479,480,481]), (5,0,27,0,1,0,0,0,[])],
  [(5,2,4,0,5,0,0,0,[]), (7,1,0,0,0,0,0,0,[]), (8,2,4,0,6,0,0,0,[]), (10,0,27,0,2,0,0,0,[])],
  [(10,2,1,0,6,0,0,0,[]), (12,2,1,0,5,0,0,0,[]), (14,3,28,0,9,3,0,0,[]), (17,1,1,1,1,0,0,0,[]), (18,1,0,0,0,0,0,4,[]), (19,1,10,0,0,0,0,0,[]), (20,2,1,0,6,0,0,0,[]), (22,1,8,0,0,0,0,0,[]), (23,2,4,0,7,0,0,0,[]), (25,1,1,1,2,0,0,0,[]), (26,1,0,0,0,0,0,1,[]), (27,3,28,0,4,0,0,0,[]), (30,1,2,1,0,0,0,0,[]), (31,3,35,0,2,8,44,0,[158]), (34,2,1,0,7,0,0,0,[]), (36,3,40,3,52,2,63,0,[483,484,485]), (39,0,27,0,3,0,0,0,[])],
  [(39,1,1,1,3,0,0,0,[]), (40,3,28,0,4,1,0,0,[]), (43,1,0,0,0,0,0,1,[]), (44,1,46,0,1,0,0,0,[])],
  [(45,1,1,1,2,0,0,0,[]), (46,1,0,0,0,0,0,1,[]), (47,3,28,0,6,1,0,0,[]), (50,1,2,1,0,0,0,0,[]), (51,3,35,0,2,8,44,0,[158]), (54,2,1,0,7,0,0,0,[]), (56,1,1,1,3,0,0,0,[]), (57,2,2,0,4,0,0,0,[]), (59,3,40,3,58,4,88,0,[574,575,576]), (62,0,27,0,5,0,0,0,[])],
  [(62,3,29,0,6,0,0,0,[]), (65,1,0,0,0,0,0,1,[]), (66,1,46,0,1,0,0,0,[])],
  [(67,1,1,1,2,0,0,0,[]), (68,1,0,0,0,0,0,2,[]), (69,3,28,0,8,1,0,0,[]), (72,1,2,1,0,0,0,0,[]), (73,3,35,0,2,8,44,0,[158]), (76,2,1,0,7,0,0,0,[]), (78,1,0,0,0,0,0,(-1),[]), (79,2,2,0,4,0,0,0,[]), (81,3,40,3,58,4,88,0,[574,575,576]), (84,0,27,0,7,0,0,0,[])],
  [(84,3,29,0,8,0,0,0,[]), (87,1,0,0,0,0,0,1,[]), (88,1,46,0,1,0,0,0,[])],
  [(89,3,7,0,6,0,0,1,[]), (92,3,26,0,2,0,0,0,[])],
  [(95,1,0,0,0,0,0,0,[]), (96,1,46,0,1,0,0,0,[])]]
/-- MergeLine$Changes.takeOver(LMergeLine$Changes;)V -/
def cd_49 : List (List xI) := [[(0,1,2,1,0,0,0,0,[]), (1,3,35,0,2,0,14,0,[150]), (4,1,2,1,1,0,0,0,[]), (5,3,35,0,2,0,14,0,[150]), (8,3,41,1,21,2,92,0,[947,937,938]), (11,0,27,0,1,0,0,0,[])],
  [(11,1,2,1,0,0,0,0,[]), (12,3,35,0,2,1,20,0,[151]), (15,1,2,1,1,0,0,0,[]), (16,3,35,0,2,1,20,0,[151]), (19,3,41,1,21,2,92,0,[947,937,938]), (22,0,27,0,2,0,0,0,[])],
  [(22,1,2,1,0,0,0,0,[]), (23,3,35,0,2,2,23,0,[152]), (26,1,2,1,1,0,0,0,[]), (27,3,35,0,2,2,23,0,[152]), (30,3,41,1,21,2,92,0,[947,937,938]), (33,0,27,0,3,0,0,0,[])],
  [(33,1,2,1,0,0,0,0,[]), (34,3,35,0,2,3,26,0,[153]), (37,1,2,1,1,0,0,0,[]), (38,3,35,0,2,3,26,0,[153]), (41,3,41,1,21,2,92,0,[947,937,938]), (44,0,27,0,4,0,0,0,[])],
  [(44,1,2,1,0,0,0,0,[]), (45,3,35,0,2,4,29,0,[154]), (48,1,2,1,1,0,0,0,[]), (49,3,35,0,2,4,29,0,[154]), (52,3,41,1,21,2,92,0,[947,937,938]), (55,0,27,0,5,0,0,0,[])],
  [(55,1,2,1,0,0,0,0,[]), (56,3,35,0,2,5,32,0,[155]), (59,1,2,1,1,0,0,0,[]), (60,3,35,0,2,5,32,0,[155]), (63,3,41,1,21,2,92,0,[947,937,938]), (66,0,27,0,6,0,0,0,[])],
  [(66,1,2,1,0,0,0,0,[]), (67,3,35,0,2,6,35,0,[156]), (70,1,2,1,1,0,0,0,[]), (71,3,35,0,2,6,35,0,[156]), (74,3,41,1,21,2,92,0,[947,937,938]), (77,0,27,0,7,0,0,0,[])],
  [(77,1,2,1,0,0,0,0,[]), (78,3,35,0,2,7,38,0,[157]), (81,1,2,1,1,0,0,0,[]), (82,3,35,0,2,7,38,0,[157]), (85,3,41,1,21,2,92,0,[947,937,938]), (88,0,27,0,8,0,0,0,[])],
  [(88,1,2,1,0,0,0,0,[]), (89,3,35,0,2,8,44,0,[158]), (92,1,2,1,1,0,0,0,[]), (93,3,35,0,2,8,44,0,[158]), (96,3,41,3,60,2,96,0,[948,949,950]), (99,0,27,0,9,0,0,0,[])],
  [(99,1,2,1,0,0,0,0,[]), (100,1,2,1,1,0,0,0,[]), (101,3,34,0,2,9,48,0,[159]), (104,3,36,0,2,9,48,0,[159]), (107,1,47,0,0,0,0,0,[])]]
/-- MergeLine$Edits.<init>()V -/
def cd_50 : List (List xI) := [[(0,1,2,1,0,0,0,0,[]), (1,3,43,0,0,0,3,0,[125]), (4,1,2,1,0,0,0,0,[]), (5,3,38,0,1,0,9,0,[126]), (8,1,23,0,0,0,0,0,[]), (9,3,0,2,0,0,0,244,[]), (12,3,48,0,17,2,13,0,[127,113]), (15,0,27,0,1,0,0,0,[])],
  [(15,3,37,0,3,0,16,0,[128]), (18,1,2,1,0,0,0,0,[]), (19,3,38,0,1,0,9,0,[126]), (22,1,23,0,0,0,0,0,[]), (23,3,0,2,0,0,0,244,[]), (26,3,48,0,17,2,13,0,[127,113]), (29,0,27,0,2,0,0,0,[])],
  [(29,3,37,0,3,1,20,0,[129]), (32,1,2,1,0,0,0,0,[]), (33,3,38,0,1,0,9,0,[126]), (36,1,23,0,0,0,0,0,[]), (37,3,0,2,0,0,0,244,[]), (40,3,48,0,17,2,13,0,[127,113]), (43,0,27,0,3,0,0,0,[])],
  [(43,3,37,0,3,2,23,0,[130]), (46,1,2,1,0,0,0,0,[]), (47,3,38,0,1,0,9,0,[126]), (50,1,23,0,0,0,0,0,[]), (51,3,0,2,0,0,0,244,[]), (54,3,48,0,17,2,13,0,[127,113]), (57,0,27,0,4,0,0,0,[])],
  [(57,3,37,0,3,3,26,0,[131]), (60,1,2,1,0,0,0,0,[]), (61,3,38,0,1,0,9,0,[126]), (64,1,23,0,0,0,0,0,[]), (65,3,0,2,0,0,0,244,[]), (68,3,48,0,17,2,13,0,[127,113]), (71,0,27,0,5,0,0,0,[])],
  [(71,3,37,0,3,4,29,0,[132]), (74,1,2,1,0,0,0,0,[]), (75,3,38,0,1,0,9,0,[126]), (78,1,23,0,0,0,0,0,[]), (79,3,0,2,0,0,0,1464,[]), (82,3,48,0,17,2,13,0,[127,113]), (85,0,27,0,6,0,0,0,[])],
  [(85,3,37,0,3,5,32,0,[133]), (88,1,2,1,0,0,0,0,[]), (89,3,38,0,1,0,9,0,[126]), (92,1,23,0,0,0,0,0,[]), (93,3,0,2,0,0,0,1464,[]), (96,3,48,0,17,2,13,0,[127,113]), (99,0,27,0,7,0,0,0,[])],
  [(99,3,37,0,3,6,35,0,[134]), (102,1,47,0,0,0,0,0,[])]]
/-- MergeLine$Edits.begin(IIII)V -/
def cd_51 : List (List xI) := [[(0,1,2,1,0,0,0,0,[]), (1,3,35,0,3,0,16,0,[128]), (4,1,1,1,1,0,0,0,[]), (5,1,1,1,2,0,0,0,[]), (6,3,41,1,19,3,38,0,[497,375,376]), (9,0,27,0,1,0,0,0,[])],
  [(9,1,2,1,0,0,0,0,[]), (10,3,35,0,3,3,26,0,[131]), (13,1,1,1,1,0,0,0,[]), (14,1,1,1,3,0,0,0,[]), (15,3,41,1,19,3,38,0,[497,375,376]), (18,0,27,0,2,0,0,0,[])],
  [(18,1,2,1,0,0,0,0,[]), (19,3,35,0,3,4,29,0,[132]), (22,1,1,1,1,0,0,0,[]), (23,2,1,0,4,0,0,0,[]), (25,3,41,1,19,3,38,0,[497,375,376]), (28,0,27,0,3,0,0,0,[])],
  [(28,1,47,0,0,0,0,0,[])]]
/-- MergeLine$Edits.fileOf(I)I -/
def cd_52 : List (List xI) := [[(0,1,2,1,0,0,0,0,[]), (1,3,35,0,3,0,16,0,[128]), (4,1,1,1,1,0,0,0,[]), (5,3,40,1,18,2,42,0,[487,411,412]), (8,0,27,0,1,0,0,0,[])],
  [(8,1,46,0,0,0,0,0,[])]]
/-- MergeLine$Edits.takeLines(ILMergeLine$Book;I)V -/
def cd_53 : List (List xI) := [[(0,1,2,1,0,0,0,0,[]), (1,3,35,0,3,0,16,0,[128]), (4,1,1,1,1,0,0,0,[]), (5,3,40,1,18,2,42,0,[487,411,412]), (8,0,27,0,1,0,0,0,[])],
  [(8,2,4,0,4,0,0,0,[]), (10,1,2,1,0,0,0,0,[]), (11,3,35,0,3,3,26,0,[131]), (14,1,1,1,1,0,0,0,[]), (15,3,40,1,18,2,42,0,[487,411,412]), (18,0,27,0,2,0,0,0,[])],
  [(18,2,4,0,5,0,0,0,[]), (20,1,2,1,0,0,0,0,[]), (21,3,35,0,3,1,20,0,[129]), (24,1,1,1,1,0,0,0,[]), (25,1,2,1,2,0,0,0,[]), (26,1,2,1,2,0,0,0,[]), (27,3,40,0,1,1,46,0,[506,403,404]), (30,0,27,0,3,0,0,0,[])],
  [(30,2,1,0,4,0,0,0,[]), (32,1,1,1,3,0,0,0,[]), (33,1,0,0,0,0,0,1,[]), (34,1,9,0,0,0,0,0,[]), (35,3,40,0,7,4,52,0,[507,419,420]), (38,0,27,0,4,0,0,0,[])],
  [(38,3,41,1,19,3,38,0,[497,375,376]), (41,0,27,0,5,0,0,0,[])],
  [(41,1,2,1,0,0,0,0,[]), (42,3,35,0,3,2,23,0,[130]), (45,1,1,1,1,0,0,0,[]), (46,1,2,1,2,0,0,0,[]), (47,1,2,1,2,0,0,0,[]), (48,3,40,0,1,1,46,0,[506,403,404]), (51,0,27,0,6,0,0,0,[])],
  [(51,2,1,0,4,0,0,0,[]), (53,1,1,1,3,0,0,0,[]), (54,2,1,0,5,0,0,0,[]), (56,1,8,0,0,0,0,0,[]), (57,3,40,0,7,4,52,0,[507,419,420]), (60,0,27,0,7,0,0,0,[])],
  [(60,3,41,1,19,3,38,0,[497,375,376]), (63,0,27,0,8,0,0,0,[])],
  [(63,1,0,0,0,0,0,0,[]), (64,2,4,0,6,0,0,0,[]), (66,0,27,0,9,0,0,0,[])],
  [(66,2,1,0,6,0,0,0,[]), (68,2,1,0,5,0,0,0,[]), (70,3,28,0,13,3,0,0,[]), (73,1,2,1,0,0,0,0,[]), (74,3,35,0,3,5,32,0,[133]), (77,1,1,1,1,0,0,0,[]), (78,2,0,1,0,0,0,6,[]), (80,1,10,0,0,0,0,0,[]), (81,2,1,0,6,0,0,0,[]), (83,1,8,0,0,0,0,0,[]), (84,1,2,1,2,0,0,0,[]), (85,1,2,1,2,0,0,0,[]), (86,3,40,0,1,1,46,0,[506,403,404]), (89,0,27,0,10,0,0,0,[])],
  [(89,2,1,0,4,0,0,0,[]), (91,1,1,1,3,0,0,0,[]), (92,2,1,0,6,0,0,0,[]), (94,1,8,0,0,0,0,0,[]), (95,3,40,0,7,4,52,0,[507,419,420]), (98,0,27,0,11,0,0,0,[])],
  [(98,3,41,1,19,3,38,0,[497,375,376]), (101,0,27,0,12,0,0,0,[])],
  [(101,3,7,0,6,0,0,1,[]), (104,3,26,0,9,0,0,0,[])],
  [(107,1,47,0,0,0,0,0,[])]]
/-- MergeLine$Edits.putLines(ILMergeLine$Book;I)V -/
def cd_54 : List (List xI) := [[(0,1,2,1,0,0,0,0,[]), (1,3,35,0,3,4,29,0,[132]), (4,1,1,1,1,0,0,0,[]), (5,3,40,1,18,2,42,0,[487,411,412]), (8,0,27,0,1,0,0,0,[])],
  [(8,2,4,0,4,0,0,0,[]), (10,1,0,0,0,0,0,0,[]), (11,2,4,0,5,0,0,0,[]), (13,0,27,0,2,0,0,0,[])],
  [(13,2,1,0,5,0,0,0,[]), (15,2,1,0,4,0,0,0,[]), (17,3,28,0,5,3,0,0,[]), (20,1,2,1,0,0,0,0,[]), (21,3,35,0,3,6,35,0,[134]), (24,1,1,1,1,0,0,0,[]), (25,2,0,1,0,0,0,6,[]), (27,1,10,0,0,0,0,0,[]), (28,2,1,0,5,0,0,0,[]), (30,1,8,0,0,0,0,0,[]), (31,1,2,1,2,0,0,0,[]), (32,1,1,1,3,0,0,0,[]), (33,2,1,0,5,0,0,0,[]), (35,1,8,0,0,0,0,0,[]), (36,3,40,0,3,2,56,0,[516,340,341]), (39,0,27,0,3,0,0,0,[])],
  [(39,3,41,1,19,3,38,0,[497,375,376]), (42,0,27,0,4,0,0,0,[])],
  [(42,3,7,0,5,0,0,1,[]), (45,3,26,0,2,0,0,0,[])],
  [(48,1,47,0,0,0,0,0,[])]]
/-- MergeLine$Edits.turn(II)V -/
def cd_55 : List (List xI) := [[(0,1,2,1,0,0,0,0,[]), (1,3,35,0,3,0,16,0,[128]), (4,1,1,1,2,0,0,0,[]), (5,1,2,1,0,0,0,0,[]), (6,3,35,0,3,0,16,0,[128]), (9,1,1,1,1,0,0,0,[]), (10,3,40,1,18,2,42,0,[487,411,412]), (13,0,27,0,1,0,0,0,[])],
  [(13,3,41,1,19,3,38,0,[497,375,376]), (16,0,27,0,2,0,0,0,[])],
  [(16,1,2,1,0,0,0,0,[]), (17,3,35,0,3,1,20,0,[129]), (20,1,1,1,2,0,0,0,[]), (21,1,2,1,0,0,0,0,[]), (22,3,35,0,3,1,20,0,[129]), (25,1,1,1,1,0,0,0,[]), (26,3,40,1,18,2,42,0,[487,411,412]), (29,0,27,0,3,0,0,0,[])],
  [(29,3,41,1,19,3,38,0,[497,375,376]), (32,0,27,0,4,0,0,0,[])],
  [(32,1,2,1,0,0,0,0,[]), (33,3,35,0,3,2,23,0,[130]), (36,1,1,1,2,0,0,0,[]), (37,1,2,1,0,0,0,0,[]), (38,3,35,0,3,2,23,0,[130]), (41,1,1,1,1,0,0,0,[]), (42,3,40,1,18,2,42,0,[487,411,412]), (45,0,27,0,5,0,0,0,[])],
  [(45,3,41,1,19,3,38,0,[497,375,376]), (48,0,27,0,6,0,0,0,[])],
  [(48,1,2,1,0,0,0,0,[]), (49,3,35,0,3,3,26,0,[131]), (52,1,1,1,2,0,0,0,[]), (53,1,2,1,0,0,0,0,[]), (54,3,35,0,3,4,29,0,[132]), (57,1,1,1,1,0,0,0,[]), (58,3,40,1,18,2,42,0,[487,411,412]), (61,0,27,0,7,0,0,0,[])],
  [(61,3,41,1,19,3,38,0,[497,375,376]), (64,0,27,0,8,0,0,0,[])],
  [(64,1,2,1,0,0,0,0,[]), (65,3,35,0,3,4,29,0,[132]), (68,1,1,1,2,0,0,0,[]), (69,1,2,1,0,0,0,0,[]), (70,3,35,0,3,3,26,0,[131]), (73,1,1,1,1,0,0,0,[]), (74,3,40,1,18,2,42,0,[487,411,412]), (77,0,27,0,9,0,0,0,[])],
  [(77,3,41,1,19,3,38,0,[497,375,376]), (80,0,27,0,10,0,0,0,[])],
  [(80,1,0,0,0,0,0,0,[]), (81,1,4,1,3,0,0,0,[]), (82,0,27,0,11,0,0,0,[])],
  [(82,1,1,1,3,0,0,0,[]), (83,2,0,1,0,0,0,6,[]), (85,3,28,0,16,3,0,0,[]), (88,1,2,1,0,0,0,0,[]), (89,3,35,0,3,5,32,0,[133]), (92,1,1,1,2,0,0,0,[]), (93,2,0,1,0,0,0,6,[]), (95,1,10,0,0,0,0,0,[]), (96,1,1,1,3,0,0,0,[]), (97,1,8,0,0,0,0,0,[]), (98,1,2,1,0,0,0,0,[]), (99,3,35,0,3,6,35,0,[134]), (102,1,1,1,1,0,0,0,[]), (103,2,0,1,0,0,0,6,[]), (105,1,10,0,0,0,0,0,[]), (106,1,1,1,3,0,0,0,[]), (107,1,8,0,0,0,0,0,[]), (108,3,40,1,18,2,42,0,[487,411,412]), (111,0,27,0,12,0,0,0,[])],
  [(111,3,41,1,19,3,38,0,[497,375,376]), (114,0,27,0,13,0,0,0,[])],
  [(114,1,2,1,0,0,0,0,[]), (115,3,35,0,3,6,35,0,[134]), (118,1,1,1,2,0,0,0,[]), (119,2,0,1,0,0,0,6,[]), (121,1,10,0,0,0,0,0,[]), (122,1,1,1,3,0,0,0,[]), (123,1,8,0,0,0,0,0,[]), (124,1,2,1,0,0,0,0,[]), (125,3,35,0,3,5,32,0,[133]), (128,1,1,1,1,0,0,0,[]), (129,2,0,1,0,0,0,6,[]), (131,1,10,0,0,0,0,0,[]), (132,1,1,1,3,0,0,0,[]), (133,1,8,0,0,0,0,0,[]), (134,3,40,1,18,2,42,0,[487,411,412]), (137,0,27,0,14,0,0,0,[])],
  [(137,3,41,1,19,3,38,0,[497,375,376]), (140,0,27,0,15,0,0,0,[])],
  [(140,3,7,0,3,0,0,1,[]), (143,3,26,0,11,0,0,0,[])],
  [(146,1,47,0,0,0,0,0,[])]]
/-- MergeLine$Edits.placeOf(ILMergeLine$Book;I)I -/
def cd_56 : List (List xI) := [[(0,1,2,1,0,0,0,0,[]), (1,3,35,0,3,0,16,0,[128]), (4,1,1,1,1,0,0,0,[]), (5,3,40,1,18,2,42,0,[487,411,412]), (8,0,27,0,1,0,0,0,[])],
  [(8,2,4,0,4,0,0,0,[]), (10,1,2,1,0,0,0,0,[]), (11,3,35,0,3,3,26,0,[131]), (14,1,1,1,1,0,0,0,[]), (15,3,40,1,18,2,42,0,[487,411,412]), (18,0,27,0,2,0,0,0,[])],
  [(18,2,4,0,5,0,0,0,[]), (20,1,2,1,2,0,0,0,[]), (21,1,1,1,3,0,0,0,[]), (22,2,1,0,4,0,0,0,[]), (24,3,40,0,5,3,59,0,[541,336,337]), (27,0,27,0,3,0,0,0,[])],
  [(27,2,4,0,6,0,0,0,[]), (29,2,1,0,6,0,0,0,[]), (31,2,1,0,5,0,0,0,[]), (33,1,9,0,0,0,0,0,[]), (34,1,2,1,0,0,0,0,[]), (35,3,35,0,3,4,29,0,[132]), (38,1,1,1,1,0,0,0,[]), (39,3,40,1,18,2,42,0,[487,411,412]), (42,0,27,0,4,0,0,0,[])],
  [(42,1,8,0,0,0,0,0,[]), (43,2,0,1,0,0,0,24,[]), (45,3,28,0,5,5,0,0,[]), (48,1,0,0,0,0,0,(-1),[]), (49,1,46,0,0,0,0,0,[])],
  [(50,1,0,0,0,0,0,0,[]), (51,2,4,0,7,0,0,0,[]), (53,0,27,0,6,0,0,0,[])],
  [(53,2,1,0,7,0,0,0,[]), (55,2,1,0,6,0,0,0,[]), (57,2,1,0,5,0,0,0,[]), (59,1,9,0,0,0,0,0,[]), (60,3,28,0,20,4,0,0,[]), (63,1,2,1,2,0,0,0,[]), (64,1,1,1,3,0,0,0,[]), (65,2,1,0,4,0,0,0,[]), (67,2,1,0,7,0,0,0,[]), (69,1,0,0,0,0,0,1,[]), (70,1,9,0,0,0,0,0,[]), (71,3,40,0,7,4,52,0,[507,419,420]), (74,0,27,0,7,0,0,0,[])],
  [(74,1,2,1,0,0,0,0,[]), (75,3,35,0,3,1,20,0,[129]), (78,1,1,1,1,0,0,0,[]), (79,3,40,1,18,2,42,0,[487,411,412]), (82,0,27,0,8,0,0,0,[])],
  [(82,3,28,0,11,1,0,0,[]), (85,1,2,1,2,0,0,0,[]), (86,1,1,1,3,0,0,0,[]), (87,2,1,0,4,0,0,0,[]), (89,2,1,0,7,0,0,0,[]), (91,2,1,0,5,0,0,0,[]), (93,1,8,0,0,0,0,0,[]), (94,3,40,0,7,4,52,0,[507,419,420]), (97,0,27,0,9,0,0,0,[])],
  [(97,1,2,1,0,0,0,0,[]), (98,3,35,0,3,2,23,0,[130]), (101,1,1,1,1,0,0,0,[]), (102,3,40,1,18,2,42,0,[487,411,412]), (105,0,27,0,10,0,0,0,[])],
  [(105,3,28,0,11,1,0,0,[]), (108,1,0,0,0,0,0,1,[]), (109,3,26,0,12,0,0,0,[])],
  [(112,1,0,0,0,0,0,0,[]), (113,0,27,0,12,0,0,0,[])],
  [(113,2,4,0,8,0,0,0,[]), (115,1,0,0,0,0,0,0,[]), (116,2,4,0,9,0,0,0,[]), (118,0,27,0,13,0,0,0,[])],
  [(118,2,1,0,9,0,0,0,[]), (120,2,1,0,5,0,0,0,[]), (122,3,28,0,18,3,0,0,[]), (125,2,1,0,8,0,0,0,[]), (127,3,29,0,18,0,0,0,[]), (130,1,2,1,2,0,0,0,[]), (131,1,1,1,3,0,0,0,[]), (132,2,1,0,4,0,0,0,[]), (134,2,1,0,7,0,0,0,[]), (136,2,1,0,9,0,0,0,[]), (138,1,8,0,0,0,0,0,[]), (139,3,40,0,7,4,52,0,[507,419,420]), (142,0,27,0,14,0,0,0,[])],
  [(142,1,2,1,0,0,0,0,[]), (143,3,35,0,3,5,32,0,[133]), (146,1,1,1,1,0,0,0,[]), (147,2,0,1,0,0,0,6,[]), (149,1,10,0,0,0,0,0,[]), (150,2,1,0,9,0,0,0,[]), (152,1,8,0,0,0,0,0,[]), (153,3,40,1,18,2,42,0,[487,411,412]), (156,0,27,0,15,0,0,0,[])],
  [(156,3,28,0,16,1,0,0,[]), (159,1,0,0,0,0,0,1,[]), (160,3,26,0,17,0,0,0,[])],
  [(163,1,0,0,0,0,0,0,[]), (164,0,27,0,17,0,0,0,[])],
  [(164,2,4,0,8,0,0,0,[]), (166,3,7,0,9,0,0,1,[]), (169,3,26,0,13,0,0,0,[])],
  [(172,2,1,0,8,0,0,0,[]), (174,3,29,0,19,0,0,0,[]), (177,2,1,0,7,0,0,0,[]), (179,1,46,0,0,0,0,0,[])],
  [(180,3,7,0,7,0,0,1,[]), (183,3,26,0,6,0,0,0,[])],
  [(186,1,0,0,0,0,0,(-1),[]), (187,1,46,0,0,0,0,0,[])]]
/-- MergeLine$Edits.doAt(ILMergeLine$Book;II)V -/
def cd_57 : List (List xI) := [[(0,1,2,1,0,0,0,0,[]), (1,3,35,0,3,0,16,0,[128]), (4,1,1,1,1,0,0,0,[]), (5,3,40,1,18,2,42,0,[487,411,412]), (8,0,27,0,1,0,0,0,[])],
  [(8,2,4,0,5,0,0,0,[]), (10,1,2,1,0,0,0,0,[]), (11,3,35,0,3,4,29,0,[132]), (14,1,1,1,1,0,0,0,[]), (15,3,40,1,18,2,42,0,[487,411,412]), (18,0,27,0,2,0,0,0,[])],
  [(18,2,4,0,6,0,0,0,[]), (20,1,2,1,2,0,0,0,[]), (21,1,1,1,3,0,0,0,[]), (22,2,1,0,5,0,0,0,[]), (24,2,1,0,4,0,0,0,[]), (26,1,2,1,0,0,0,0,[]), (27,3,35,0,3,3,26,0,[131]), (30,1,1,1,1,0,0,0,[]), (31,3,40,1,18,2,42,0,[487,411,412]), (34,0,27,0,3,0,0,0,[])],
  [(34,2,1,0,6,0,0,0,[]), (36,3,41,0,13,6,63,0,[709,349,350]), (39,0,27,0,4,0,0,0,[])],
  [(39,1,0,0,0,0,0,0,[]), (40,2,4,0,7,0,0,0,[]), (42,0,27,0,5,0,0,0,[])],
  [(42,2,1,0,7,0,0,0,[]), (44,2,1,0,6,0,0,0,[]), (46,3,28,0,8,3,0,0,[]), (49,1,2,1,2,0,0,0,[]), (50,1,1,1,3,0,0,0,[]), (51,2,1,0,5,0,0,0,[]), (53,2,1,0,4,0,0,0,[]), (55,2,1,0,7,0,0,0,[]), (57,1,8,0,0,0,0,0,[]), (58,1,2,1,0,0,0,0,[]), (59,3,35,0,3,6,35,0,[134]), (62,1,1,1,1,0,0,0,[]), (63,2,0,1,0,0,0,6,[]), (65,1,10,0,0,0,0,0,[]), (66,2,1,0,7,0,0,0,[]), (68,1,8,0,0,0,0,0,[]), (69,3,40,1,18,2,42,0,[487,411,412]), (72,0,27,0,6,0,0,0,[])],
  [(72,3,41,0,12,5,67,0,[710,356,357]), (75,0,27,0,7,0,0,0,[])],
  [(75,3,7,0,7,0,0,1,[]), (78,3,26,0,5,0,0,0,[])],
  [(81,1,47,0,0,0,0,0,[])]]
/-- MergeLine$Edits.gives(IILMergeLine$Book;)Z -/
def cd_58 : List (List xI) := [[(0,1,2,1,0,0,0,0,[]), (1,3,35,0,3,5,32,0,[133]), (4,1,1,1,1,0,0,0,[]), (5,2,0,1,0,0,0,6,[]), (7,1,10,0,0,0,0,0,[]), (8,1,2,1,0,0,0,0,[]), (9,3,35,0,3,3,26,0,[131]), (12,1,1,1,1,0,0,0,[]), (13,3,40,1,18,2,42,0,[487,411,412]), (16,0,27,0,1,0,0,0,[])],
  [(16,1,1,1,2,0,0,0,[]), (17,1,2,1,3,0,0,0,[]), (18,3,42,0,59,5,71,0,[578,579]), (21,0,27,0,2,0,0,0,[])],
  [(21,3,29,0,5,1,0,0,[]), (24,1,2,1,0,0,0,0,[]), (25,3,35,0,3,6,35,0,[134]), (28,1,1,1,1,0,0,0,[]), (29,2,0,1,0,0,0,6,[]), (31,1,10,0,0,0,0,0,[]), (32,1,2,1,0,0,0,0,[]), (33,3,35,0,3,4,29,0,[132]), (36,1,1,1,1,0,0,0,[]), (37,3,40,1,18,2,42,0,[487,411,412]), (40,0,27,0,3,0,0,0,[])],
  [(40,1,1,1,2,0,0,0,[]), (41,1,2,1,3,0,0,0,[]), (42,3,42,0,59,5,71,0,[578,579]), (45,0,27,0,4,0,0,0,[])],
  [(45,3,29,0,6,0,0,0,[]), (48,0,27,0,5,0,0,0,[])],
  [(48,1,0,0,0,0,0,1,[]), (49,3,26,0,7,0,0,0,[])],
  [(52,1,0,0,0,0,0,0,[]), (53,0,27,0,7,0,0,0,[])],
  [(53,1,46,0,1,0,0,0,[])]]
/-- MergeLine$Edits.isGiven(LMergeLine$Cells;IIILMergeLine$Book;)Z -/
def cd_59 : List (List xI) := [[(0,1,0,0,0,0,0,0,[]), (1,2,4,0,5,0,0,0,[]), (3,0,27,0,1,0,0,0,[])],
  [(3,2,1,0,5,0,0,0,[]), (5,1,1,1,2,0,0,0,[]), (6,3,28,0,6,3,0,0,[]), (9,2,2,0,4,0,0,0,[]), (11,1,2,1,0,0,0,0,[]), (12,1,1,1,1,0,0,0,[]), (13,2,1,0,5,0,0,0,[]), (15,1,8,0,0,0,0,0,[]), (16,3,40,1,18,2,42,0,[487,411,412]), (19,0,27,0,2,0,0,0,[])],
  [(19,3,40,0,9,2,75,0,[581,432,433]), (22,0,27,0,3,0,0,0,[])],
  [(22,2,4,0,6,0,0,0,[]), (24,2,1,0,6,0,0,0,[]), (26,1,0,0,0,0,0,(-1),[]), (27,3,28,0,5,0,0,0,[]), (30,1,1,1,3,0,0,0,[]), (31,1,0,0,0,0,0,(-1),[]), (32,3,28,0,4,0,0,0,[]), (35,2,1,0,6,0,0,0,[]), (37,1,1,1,3,0,0,0,[]), (38,3,28,0,5,1,0,0,[]), (41,0,27,0,4,0,0,0,[])],
  [(41,1,0,0,0,0,0,1,[]), (42,1,46,0,1,0,0,0,[])],
  [(43,3,7,0,5,0,0,1,[]), (46,3,26,0,1,0,0,0,[])],
  [(49,1,0,0,0,0,0,0,[]), (50,1,46,0,1,0,0,0,[])]]
/-- MergeLine$Edits.takeOver(LMergeLine$Edits;)V -/
def cd_60 : List (List xI) := [[(0,1,2,1,0,0,0,0,[]), (1,3,35,0,3,0,16,0,[128]), (4,1,2,1,1,0,0,0,[]), (5,3,35,0,3,0,16,0,[128]), (8,3,41,1,21,2,78,0,[952,937,938]), (11,0,27,0,1,0,0,0,[])],
  [(11,1,2,1,0,0,0,0,[]), (12,3,35,0,3,1,20,0,[129]), (15,1,2,1,1,0,0,0,[]), (16,3,35,0,3,1,20,0,[129]), (19,3,41,1,21,2,78,0,[952,937,938]), (22,0,27,0,2,0,0,0,[])],
  [(22,1,2,1,0,0,0,0,[]), (23,3,35,0,3,2,23,0,[130]), (26,1,2,1,1,0,0,0,[]), (27,3,35,0,3,2,23,0,[130]), (30,3,41,1,21,2,78,0,[952,937,938]), (33,0,27,0,3,0,0,0,[])],
  [(33,1,2,1,0,0,0,0,[]), (34,3,35,0,3,3,26,0,[131]), (37,1,2,1,1,0,0,0,[]), (38,3,35,0,3,3,26,0,[131]), (41,3,41,1,21,2,78,0,[952,937,938]), (44,0,27,0,4,0,0,0,[])],
  [(44,1,2,1,0,0,0,0,[]), (45,3,35,0,3,4,29,0,[132]), (48,1,2,1,1,0,0,0,[]), (49,3,35,0,3,4,29,0,[132]), (52,3,41,1,21,2,78,0,[952,937,938]), (55,0,27,0,5,0,0,0,[])],
  [(55,1,2,1,0,0,0,0,[]), (56,3,35,0,3,5,32,0,[133]), (59,1,2,1,1,0,0,0,[]), (60,3,35,0,3,5,32,0,[133]), (63,3,41,1,21,2,78,0,[952,937,938]), (66,0,27,0,6,0,0,0,[])],
  [(66,1,2,1,0,0,0,0,[]), (67,3,35,0,3,6,35,0,[134]), (70,1,2,1,1,0,0,0,[]), (71,3,35,0,3,6,35,0,[134]), (74,3,41,1,21,2,78,0,[952,937,938]), (77,0,27,0,7,0,0,0,[])],
  [(77,1,47,0,0,0,0,0,[])]]
/-- MergeLine$Hall.<init>(I)V -/
def cd_61 : List (List xI) := [[(0,1,2,1,0,0,0,0,[]), (1,3,43,0,0,0,3,0,[80]), (4,1,2,1,0,0,0,0,[]), (5,3,38,0,0,0,9,0,[81]), (8,1,23,0,0,0,0,0,[]), (9,3,48,1,0,1,11,0,[83,84]), (12,0,27,0,1,0,0,0,[])],
  [(12,3,37,0,4,0,12,0,[286]), (15,1,2,1,0,0,0,0,[]), (16,3,38,0,2,0,18,0,[104]), (19,1,23,0,0,0,0,0,[]), (20,3,48,1,22,1,20,0,[106,107]), (23,0,27,0,2,0,0,0,[])],
  [(23,3,37,0,4,2,21,0,[290]), (26,1,2,1,0,0,0,0,[]), (27,3,38,0,5,0,25,0,[181]), (30,1,23,0,0,0,0,0,[]), (31,3,48,1,81,1,27,0,[183,184]), (34,0,27,0,3,0,0,0,[])],
  [(34,3,37,0,4,3,28,0,[292]), (37,1,2,1,0,0,0,0,[]), (38,3,38,0,7,0,32,0,[196]), (41,1,23,0,0,0,0,0,[]), (42,3,48,1,97,1,34,0,[198,199]), (45,0,27,0,4,0,0,0,[])],
  [(45,3,37,0,4,4,35,0,[294]), (48,1,2,1,0,0,0,0,[]), (49,3,38,0,6,0,39,0,[229]), (52,1,23,0,0,0,0,0,[]), (53,3,48,1,88,1,41,0,[231,232]), (56,0,27,0,5,0,0,0,[])],
  [(56,3,37,0,4,5,42,0,[296]), (59,1,2,1,0,0,0,0,[]), (60,1,0,0,0,0,0,4,[]), (61,3,36,0,4,6,46,0,[298]), (64,1,2,1,0,0,0,0,[]), (65,3,38,0,8,0,50,0,[247]), (68,1,23,0,0,0,0,0,[]), (69,1,1,1,1,0,0,0,[]), (70,3,48,0,118,2,52,0,[249,250]), (73,0,27,0,6,0,0,0,[])],
  [(73,3,37,0,4,1,55,0,[288]), (76,1,47,0,0,0,0,0,[])]]
/-- MergeLine$Hall.swapLimit(I)I -/
def cd_62 : List (List xI) := [[(0,1,2,1,0,0,0,0,[]), (1,3,34,0,4,6,46,0,[298]), (4,1,4,1,2,0,0,0,[]), (5,1,2,1,0,0,0,0,[]), (6,1,1,1,1,0,0,0,[]), (7,3,36,0,4,6,46,0,[298]), (10,1,1,1,2,0,0,0,[]), (11,1,46,0,0,0,0,0,[])]]
/-- MergeLine$Hall.standing(I)I -/
def cd_63 : List (List xI) := [[(0,1,2,1,0,0,0,0,[]), (1,3,35,0,4,2,21,0,[290]), (4,1,1,1,1,0,0,0,[]), (5,3,40,2,27,2,59,0,[864,522,523]), (8,0,27,0,1,0,0,0,[])],
  [(8,1,4,1,2,0,0,0,[]), (9,1,1,1,2,0,0,0,[]), (10,1,0,0,0,0,0,1,[]), (11,3,28,0,2,0,0,0,[]), (14,1,1,1,2,0,0,0,[]), (15,1,46,0,0,0,0,0,[])],
  [(16,1,2,1,0,0,0,0,[]), (17,3,35,0,4,4,35,0,[294]), (20,1,1,1,1,0,0,0,[]), (21,3,40,7,108,2,63,0,[865,866,867]), (24,0,27,0,3,0,0,0,[])],
  [(24,3,29,0,4,0,0,0,[]), (27,1,0,0,0,0,0,3,[]), (28,1,46,0,0,0,0,0,[])],
  [(29,1,2,1,0,0,0,0,[]), (30,1,1,1,1,0,0,0,[]), (31,3,40,4,65,2,67,0,[663,665,4]), (34,0,27,0,5,0,0,0,[])],
  [(34,3,29,0,6,0,0,0,[]), (37,1,0,0,0,0,0,1,[]), (38,3,26,0,7,0,0,0,[])],
  [(41,1,0,0,0,0,0,2,[]), (42,0,27,0,7,0,0,0,[])],
  [(42,1,46,0,0,0,0,0,[])]]
/-- MergeLine$Hall.takeOut(II)V -/
def cd_64 : List (List xI) := [[(0,1,2,1,0,0,0,0,[]), (1,3,35,0,4,2,21,0,[290]), (4,1,1,1,1,0,0,0,[]), (5,1,1,1,2,0,0,0,[]), (6,3,41,2,28,3,70,0,[603,587,588]), (9,0,27,0,1,0,0,0,[])],
  [(9,1,2,1,0,0,0,0,[]), (10,3,35,0,4,3,28,0,[292]), (13,1,1,1,1,0,0,0,[]), (14,3,41,5,86,2,74,0,[604,605,606]), (17,0,27,0,2,0,0,0,[])],
  [(17,1,47,0,0,0,0,0,[])]]
/-- MergeLine$Hall.isReady(I)Z -/
def cd_65 : List (List xI) := [[(0,1,2,1,0,0,0,0,[]), (1,3,35,0,4,2,21,0,[290]), (4,1,1,1,1,0,0,0,[]), (5,3,40,2,34,2,77,0,[667,668,669]), (8,0,27,0,1,0,0,0,[])],
  [(8,1,4,1,2,0,0,0,[]), (9,1,2,1,0,0,0,0,[]), (10,3,35,0,4,2,21,0,[290]), (13,1,1,1,1,0,0,0,[]), (14,3,40,2,44,2,80,0,[671,672,673]), (17,0,27,0,2,0,0,0,[])],
  [(17,3,29,0,5,0,0,0,[]), (20,1,1,1,2,0,0,0,[]), (21,1,0,0,0,0,0,(-1),[]), (22,3,28,0,4,0,0,0,[]), (25,1,2,1,0,0,0,0,[]), (26,3,35,0,4,2,21,0,[290]), (29,1,1,1,2,0,0,0,[]), (30,3,40,2,44,2,80,0,[671,672,673]), (33,0,27,0,3,0,0,0,[])],
  [(33,3,29,0,5,0,0,0,[]), (36,0,27,0,4,0,0,0,[])],
  [(36,1,0,0,0,0,0,1,[]), (37,3,26,0,6,0,0,0,[])],
  [(40,1,0,0,0,0,0,0,[]), (41,0,27,0,6,0,0,0,[])],
  [(41,1,46,0,1,0,0,0,[])]]
/-- MergeLine$Hall.isReadyAt(I)Z -/
def cd_66 : List (List xI) := [[(0,1,2,1,0,0,0,0,[]), (1,3,35,0,4,3,28,0,[292]), (4,1,1,1,1,0,0,0,[]), (5,3,40,5,84,2,83,0,[658,659,660]), (8,0,27,0,1,0,0,0,[])],
  [(8,1,4,1,2,0,0,0,[]), (9,1,1,1,2,0,0,0,[]), (10,1,0,0,0,0,0,(-1),[]), (11,3,28,0,3,0,0,0,[]), (14,1,2,1,0,0,0,0,[]), (15,1,1,1,2,0,0,0,[]), (16,3,40,4,65,2,67,0,[663,665,4]), (19,0,27,0,2,0,0,0,[])],
  [(19,3,29,0,4,1,0,0,[]), (22,0,27,0,3,0,0,0,[])],
  [(22,1,0,0,0,0,0,0,[]), (23,1,46,0,1,0,0,0,[])],
  [(24,1,2,1,0,0,0,0,[]), (25,3,35,0,4,2,21,0,[290]), (28,1,1,1,2,0,0,0,[]), (29,3,40,2,34,2,77,0,[667,668,669]), (32,0,27,0,5,0,0,0,[])],
  [(32,1,4,1,3,0,0,0,[]), (33,1,1,1,3,0,0,0,[]), (34,1,0,0,0,0,0,(-1),[]), (35,3,28,0,7,0,0,0,[]), (38,1,2,1,0,0,0,0,[]), (39,3,35,0,4,3,28,0,[292]), (42,1,1,1,3,0,0,0,[]), (43,3,40,5,85,2,86,0,[675,676,677]), (46,0,27,0,6,0,0,0,[])],
  [(46,1,1,1,1,0,0,0,[]), (47,3,28,0,8,5,0,0,[]), (50,0,27,0,7,0,0,0,[])],
  [(50,1,0,0,0,0,0,1,[]), (51,3,26,0,9,0,0,0,[])],
  [(54,1,0,0,0,0,0,0,[]), (55,0,27,0,9,0,0,0,[])],
  [(55,1,46,0,1,0,0,0,[])]]
/-- MergeLine$Hall.findsWork()Z -/
def cd_67 : List (List xI) := [[(0,1,0,0,0,0,0,1,[]), (1,1,4,1,1,0,0,0,[]), (2,1,0,0,0,0,0,0,[]), (3,1,4,1,2,0,0,0,[]), (4,0,27,0,1,0,0,0,[])],
  [(4,1,1,1,2,0,0,0,[]), (5,2,0,1,0,0,0,60,[]), (7,3,28,0,11,4,0,0,[]), (10,1,1,1,1,0,0,0,[]), (11,3,29,0,11,0,0,0,[]), (14,1,2,1,0,0,0,0,[]), (15,3,35,0,4,4,35,0,[294]), (18,3,40,7,98,1,89,0,[642,643,644]), (21,0,27,0,2,0,0,0,[])],
  [(21,3,29,0,11,1,0,0,[]), (24,1,2,1,0,0,0,0,[]), (25,3,35,0,4,3,28,0,[292]), (28,3,40,5,82,1,93,0,[646,647,648]), (31,0,27,0,3,0,0,0,[])],
  [(31,1,4,1,3,0,0,0,[]), (32,1,2,1,0,0,0,0,[]), (33,3,40,4,68,1,96,0,[650,652,2]), (36,0,27,0,4,0,0,0,[])],
  [(36,2,4,0,4,0,0,0,[]), (38,2,1,0,4,0,0,0,[]), (40,1,0,0,0,0,0,(-1),[]), (41,3,28,0,6,1,0,0,[]), (44,1,2,1,0,0,0,0,[]), (45,3,41,4,70,1,99,0,[683,685,5]), (48,0,27,0,5,0,0,0,[])],
  [(48,3,26,0,7,0,0,0,[])],
  [(51,1,2,1,0,0,0,0,[]), (52,2,1,0,4,0,0,0,[]), (54,3,41,4,69,2,102,0,[725,727,9]), (57,0,27,0,7,0,0,0,[])],
  [(57,1,2,1,0,0,0,0,[]), (58,3,35,0,4,3,28,0,[292]), (61,3,40,5,82,1,93,0,[646,647,648]), (64,0,27,0,8,0,0,0,[])],
  [(64,1,1,1,3,0,0,0,[]), (65,3,28,0,9,3,0,0,[]), (68,1,0,0,0,0,0,1,[]), (69,3,26,0,10,0,0,0,[])],
  [(72,1,0,0,0,0,0,0,[]), (73,0,27,0,10,0,0,0,[])],
  [(73,1,4,1,1,0,0,0,[]), (74,3,7,0,2,0,0,1,[]), (77,3,26,0,1,0,0,0,[])],
  [(80,1,2,1,0,0,0,0,[]), (81,3,35,0,4,4,35,0,[294]), (84,3,40,7,98,1,89,0,[642,643,644]), (87,0,27,0,12,0,0,0,[])],
  [(87,3,29,0,13,5,0,0,[]), (90,1,0,0,0,0,0,1,[]), (91,3,26,0,14,0,0,0,[])],
  [(94,1,0,0,0,0,0,0,[]), (95,0,27,0,14,0,0,0,[])],
  [(95,1,46,0,1,0,0,0,[])]]
/-- MergeLine$Hall.findLone()I -/
def cd_68 : List (List xI) := [[(0,1,0,0,0,0,0,(-1),[]), (1,1,4,1,1,0,0,0,[]), (2,1,0,0,0,0,0,0,[]), (3,1,4,1,2,0,0,0,[]), (4,0,27,0,1,0,0,0,[])],
  [(4,1,1,1,2,0,0,0,[]), (5,1,2,1,0,0,0,0,[]), (6,3,35,0,4,3,28,0,[292]), (9,3,40,5,82,1,93,0,[646,647,648]), (12,0,27,0,2,0,0,0,[])],
  [(12,3,28,0,9,3,0,0,[]), (15,1,2,1,0,0,0,0,[]), (16,1,1,1,2,0,0,0,[]), (17,3,40,4,66,2,105,0,[654,656,3]), (20,0,27,0,3,0,0,0,[])],
  [(20,3,29,0,4,1,0,0,[]), (23,3,26,0,8,0,0,0,[])],
  [(26,1,2,1,0,0,0,0,[]), (27,3,35,0,4,3,28,0,[292]), (30,1,1,1,2,0,0,0,[]), (31,3,40,5,84,2,83,0,[658,659,660]), (34,0,27,0,5,0,0,0,[])],
  [(34,1,4,1,3,0,0,0,[]), (35,1,2,1,0,0,0,0,[]), (36,3,35,0,4,2,21,0,[290]), (39,1,1,1,3,0,0,0,[]), (40,1,0,0,0,0,0,1,[]), (41,3,40,2,45,3,108,0,[679,680,681]), (44,0,27,0,6,0,0,0,[])],
  [(44,3,29,0,7,0,0,0,[]), (47,1,1,1,3,0,0,0,[]), (48,1,46,0,0,0,0,0,[])],
  [(49,1,1,1,1,0,0,0,[]), (50,1,0,0,0,0,0,(-1),[]), (51,3,28,0,8,1,0,0,[]), (54,1,1,1,3,0,0,0,[]), (55,1,4,1,1,0,0,0,[]), (56,0,27,0,8,0,0,0,[])],
  [(56,3,7,0,2,0,0,1,[]), (59,3,26,0,1,0,0,0,[])],
  [(62,1,1,1,1,0,0,0,[]), (63,1,0,0,0,0,0,(-1),[]), (64,3,28,0,11,0,0,0,[]), (67,1,2,1,0,0,0,0,[]), (68,3,35,0,4,2,21,0,[290]), (71,1,1,1,1,0,0,0,[]), (72,1,0,0,0,0,0,2,[]), (73,3,40,2,45,3,108,0,[679,680,681]), (76,0,27,0,10,0,0,0,[])],
  [(76,3,29,0,11,0,0,0,[]), (79,1,1,1,1,0,0,0,[]), (80,3,26,0,12,0,0,0,[])],
  [(83,1,0,0,0,0,0,(-1),[]), (84,0,27,0,12,0,0,0,[])],
  [(84,1,46,0,0,0,0,0,[])]]
/-- MergeLine$Hall.gatherLone(I)V -/
def cd_69 : List (List xI) := [[(0,1,2,1,0,0,0,0,[]), (1,1,1,1,1,0,0,0,[]), (2,1,2,1,0,0,0,0,[]), (3,3,35,0,4,0,12,0,[286]), (6,3,40,0,1,1,112,0,[687,403,404]), (9,0,27,0,1,0,0,0,[])],
  [(9,2,0,1,0,0,0,61,[]), (11,3,40,4,71,4,115,0,[697,699,6]), (14,0,27,0,2,0,0,0,[])],
  [(14,3,29,0,5,0,0,0,[]), (17,1,2,1,0,0,0,0,[]), (18,3,35,0,4,4,35,0,[294]), (21,1,1,1,1,0,0,0,[]), (22,1,2,1,0,0,0,0,[]), (23,3,35,0,4,2,21,0,[290]), (26,1,1,1,1,0,0,0,[]), (27,3,40,2,34,2,77,0,[667,668,669]), (30,0,27,0,3,0,0,0,[])],
  [(30,3,41,7,109,3,119,0,[711,712,713]), (33,0,27,0,4,0,0,0,[])],
  [(33,3,26,0,6,0,0,0,[])],
  [(36,1,2,1,0,0,0,0,[]), (37,1,1,1,1,0,0,0,[]), (38,1,0,0,0,0,0,5,[]), (39,3,41,4,72,3,122,0,[720,722,8]), (42,0,27,0,6,0,0,0,[])],
  [(42,1,47,0,0,0,0,0,[])]]
/-- MergeLine$Hall.gather()V -/
def cd_70 : List (List xI) := [[(0,1,2,1,0,0,0,0,[]), (1,3,35,0,4,0,12,0,[286]), (4,1,2,1,0,0,0,0,[]), (5,3,35,0,4,0,12,0,[286]), (8,3,40,0,1,1,112,0,[687,403,404]), (11,0,27,0,1,0,0,0,[])],
  [(11,2,0,1,0,0,0,61,[]), (13,3,41,0,14,3,125,0,[688,689,690]), (16,0,27,0,2,0,0,0,[])],
  [(16,1,2,1,0,0,0,0,[]), (17,3,35,0,4,3,28,0,[292]), (20,3,40,5,82,1,93,0,[646,647,648]), (23,0,27,0,3,0,0,0,[])],
  [(23,1,4,1,1,0,0,0,[]), (24,1,0,0,0,0,0,0,[]), (25,1,4,1,2,0,0,0,[]), (26,1,0,0,0,0,0,0,[]), (27,1,4,1,3,0,0,0,[]), (28,0,27,0,4,0,0,0,[])],
  [(28,1,1,1,3,0,0,0,[]), (29,1,1,1,1,0,0,0,[]), (30,3,28,0,22,3,0,0,[]), (33,1,1,1,2,0,0,0,[]), (34,1,2,1,0,0,0,0,[]), (35,3,35,0,4,3,28,0,[292]), (38,3,40,5,82,1,93,0,[646,647,648]), (41,0,27,0,5,0,0,0,[])],
  [(41,3,28,0,22,3,0,0,[]), (44,1,2,1,0,0,0,0,[]), (45,3,35,0,4,4,35,0,[294]), (48,3,40,7,99,1,128,0,[693,694,695]), (51,0,27,0,6,0,0,0,[])],
  [(51,1,2,1,0,0,0,0,[]), (52,3,34,0,4,6,46,0,[298]), (55,3,28,0,22,3,0,0,[]), (58,1,2,1,0,0,0,0,[]), (59,3,35,0,4,3,28,0,[292]), (62,1,1,1,2,0,0,0,[]), (63,3,40,5,84,2,83,0,[658,659,660]), (66,0,27,0,7,0,0,0,[])],
  [(66,2,4,0,4,0,0,0,[]), (68,1,2,1,0,0,0,0,[]), (69,1,1,1,2,0,0,0,[]), (70,3,40,4,66,2,105,0,[654,656,3]), (73,0,27,0,8,0,0,0,[])],
  [(73,2,4,0,5,0,0,0,[]), (75,2,1,0,5,0,0,0,[]), (77,3,29,0,10,0,0,0,[]), (80,1,2,1,0,0,0,0,[]), (81,3,35,0,4,2,21,0,[290]), (84,2,1,0,4,0,0,0,[]), (86,1,0,0,0,0,0,2,[]), (87,3,40,2,45,3,108,0,[679,680,681]), (90,0,27,0,9,0,0,0,[])],
  [(90,3,29,0,10,0,0,0,[]), (93,1,47,0,0,0,0,0,[])],
  [(94,2,1,0,5,0,0,0,[]), (96,3,29,0,12,0,0,0,[]), (99,1,2,1,0,0,0,0,[]), (100,2,1,0,4,0,0,0,[]), (102,2,0,1,0,0,0,61,[]), (104,2,0,1,0,0,0,62,[]), (106,3,40,4,71,4,115,0,[697,699,6]), (109,0,27,0,11,0,0,0,[])],
  [(109,3,29,0,12,0,0,0,[]), (112,1,0,0,0,0,0,1,[]), (113,3,26,0,13,0,0,0,[])],
  [(116,1,0,0,0,0,0,0,[]), (117,0,27,0,13,0,0,0,[])],
  [(117,2,4,0,6,0,0,0,[]), (119,2,1,0,6,0,0,0,[]), (121,3,29,0,16,0,0,0,[]), (124,1,2,1,0,0,0,0,[]), (125,3,35,0,4,0,12,0,[286]), (128,2,0,1,0,0,0,62,[]), (130,2,0,1,0,0,0,61,[]), (132,3,41,0,14,3,125,0,[688,689,690]), (135,0,27,0,14,0,0,0,[])],
  [(135,1,2,1,0,0,0,0,[]), (136,3,35,0,4,4,35,0,[294]), (139,2,1,0,4,0,0,0,[]), (141,1,2,1,0,0,0,0,[]), (142,3,35,0,4,2,21,0,[290]), (145,2,1,0,4,0,0,0,[]), (147,3,40,2,34,2,77,0,[667,668,669]), (150,0,27,0,15,0,0,0,[])],
  [(150,3,41,7,109,3,119,0,[711,712,713]), (153,0,27,0,16,0,0,0,[])],
  [(153,2,1,0,5,0,0,0,[]), (155,3,29,0,20,0,0,0,[]), (158,2,1,0,6,0,0,0,[]), (160,3,29,0,20,1,0,0,[]), (163,1,2,1,0,0,0,0,[]), (164,2,1,0,4,0,0,0,[]), (166,1,2,1,0,0,0,0,[]), (167,3,35,0,4,0,12,0,[286]), (170,3,40,0,1,1,112,0,[687,403,404]), (173,0,27,0,17,0,0,0,[])],
  [(173,2,0,1,0,0,0,62,[]), (175,3,40,4,71,4,115,0,[697,699,6]), (178,0,27,0,18,0,0,0,[])],
  [(178,3,29,0,20,1,0,0,[]), (181,1,2,1,0,0,0,0,[]), (182,2,1,0,4,0,0,0,[]), (184,1,0,0,0,0,0,5,[]), (185,3,41,4,72,3,122,0,[720,722,8]), (188,0,27,0,19,0,0,0,[])],
  [(188,3,26,0,21,0,0,0,[])],
  [(191,3,7,0,2,0,0,1,[]), (194,0,27,0,21,0,0,0,[])],
  [(194,3,7,0,3,0,0,1,[]), (197,3,26,0,4,0,0,0,[])],
  [(200,1,47,0,0,0,0,0,[])]]
/-- MergeLine$Hall.unitComes(III)Z -/
def cd_71 : List (List xI) := [[(0,1,2,1,0,0,0,0,[]), (1,3,35,0,4,2,21,0,[290]), (4,1,1,1,1,0,0,0,[]), (5,3,40,2,34,2,77,0,[667,668,669]), (8,0,27,0,1,0,0,0,[])],
  [(8,2,4,0,4,0,0,0,[]), (10,1,2,1,0,0,0,0,[]), (11,3,35,0,4,0,12,0,[286]), (14,1,1,1,2,0,0,0,[]), (15,1,1,1,3,0,0,0,[]), (16,3,41,0,14,3,125,0,[688,689,690]), (19,0,27,0,2,0,0,0,[])],
  [(19,1,2,1,0,0,0,0,[]), (20,3,35,0,4,2,21,0,[290]), (23,1,1,1,1,0,0,0,[]), (24,1,2,1,0,0,0,0,[]), (25,3,35,0,4,0,12,0,[286]), (28,1,1,1,3,0,0,0,[]), (29,3,40,2,47,4,131,0,[701,702,703]), (32,0,27,0,3,0,0,0,[])],
  [(32,3,29,0,4,1,0,0,[]), (35,1,0,0,0,0,0,0,[]), (36,1,46,0,1,0,0,0,[])],
  [(37,2,1,0,4,0,0,0,[]), (39,1,0,0,0,0,0,(-1),[]), (40,3,28,0,6,0,0,0,[]), (43,1,2,1,0,0,0,0,[]), (44,3,35,0,4,2,21,0,[290]), (47,2,1,0,4,0,0,0,[]), (49,1,2,1,0,0,0,0,[]), (50,3,35,0,4,0,12,0,[286]), (53,1,1,1,3,0,0,0,[]), (54,3,40,2,47,4,131,0,[701,702,703]), (57,0,27,0,5,0,0,0,[])],
  [(57,3,29,0,7,0,0,0,[]), (60,0,27,0,6,0,0,0,[])],
  [(60,1,0,0,0,0,0,1,[]), (61,3,26,0,8,0,0,0,[])],
  [(64,1,0,0,0,0,0,0,[]), (65,0,27,0,8,0,0,0,[])],
  [(65,1,46,0,1,0,0,0,[])]]
/-- MergeLine$Hall.sendBack(II)V -/
def cd_72 : List (List xI) := [[(0,1,2,1,0,0,0,0,[]), (1,3,35,0,4,2,21,0,[290]), (4,1,1,1,1,0,0,0,[]), (5,3,40,2,34,2,77,0,[667,668,669]), (8,0,27,0,1,0,0,0,[])],
  [(8,1,4,1,3,0,0,0,[]), (9,1,2,1,0,0,0,0,[]), (10,1,1,1,1,0,0,0,[]), (11,1,1,1,2,0,0,0,[]), (12,3,41,4,64,3,135,0,[724,600,601]), (15,0,27,0,2,0,0,0,[])],
  [(15,1,1,1,3,0,0,0,[]), (16,1,0,0,0,0,0,(-1),[]), (17,3,28,0,3,0,0,0,[]), (20,1,2,1,0,0,0,0,[]), (21,1,1,1,3,0,0,0,[]), (22,1,1,1,2,0,0,0,[]), (23,3,41,4,64,3,135,0,[724,600,601]), (26,0,27,0,3,0,0,0,[])],
  [(26,1,47,0,0,0,0,0,[])]]
/-- MergeLine$Hall.trimTop()V -/
def cd_73 : List (List xI) := [[(0,1,2,1,0,0,0,0,[]), (1,3,35,0,4,0,12,0,[286]), (4,1,2,1,0,0,0,0,[]), (5,3,35,0,4,0,12,0,[286]), (8,3,40,0,1,1,112,0,[687,403,404]), (11,0,27,0,1,0,0,0,[])],
  [(11,2,0,1,0,0,0,61,[]), (13,3,41,0,14,3,125,0,[688,689,690]), (16,0,27,0,2,0,0,0,[])],
  [(16,1,2,1,0,0,0,0,[]), (17,3,35,0,4,4,35,0,[294]), (20,3,40,7,101,1,138,0,[733,734,735]), (23,0,27,0,3,0,0,0,[])],
  [(23,1,4,1,1,0,0,0,[]), (24,1,0,0,0,0,0,0,[]), (25,1,4,1,2,0,0,0,[]), (26,1,0,0,0,0,0,0,[]), (27,1,4,1,3,0,0,0,[]), (28,0,27,0,4,0,0,0,[])],
  [(28,1,1,1,3,0,0,0,[]), (29,1,1,1,1,0,0,0,[]), (30,3,28,0,11,3,0,0,[]), (33,1,2,1,0,0,0,0,[]), (34,3,35,0,4,4,35,0,[294]), (37,1,1,1,2,0,0,0,[]), (38,3,40,7,100,2,141,0,[738,739,740]), (41,0,27,0,5,0,0,0,[])],
  [(41,2,4,0,4,0,0,0,[]), (43,1,2,1,0,0,0,0,[]), (44,2,1,0,4,0,0,0,[]), (46,3,40,4,65,2,67,0,[663,665,4]), (49,0,27,0,6,0,0,0,[])],
  [(49,3,29,0,9,0,0,0,[]), (52,1,2,1,0,0,0,0,[]), (53,2,1,0,4,0,0,0,[]), (55,2,0,1,0,0,0,61,[]), (57,2,0,1,0,0,0,62,[]), (59,3,40,4,71,4,115,0,[697,699,6]), (62,0,27,0,7,0,0,0,[])],
  [(62,3,29,0,9,0,0,0,[]), (65,1,2,1,0,0,0,0,[]), (66,3,35,0,4,0,12,0,[286]), (69,2,0,1,0,0,0,62,[]), (71,2,0,1,0,0,0,61,[]), (73,3,41,0,14,3,125,0,[688,689,690]), (76,0,27,0,8,0,0,0,[])],
  [(76,3,7,0,2,0,0,1,[]), (79,3,26,0,10,0,0,0,[])],
  [(82,1,2,1,0,0,0,0,[]), (83,3,35,0,4,4,35,0,[294]), (86,1,1,1,2,0,0,0,[]), (87,3,41,7,111,2,144,0,[742,743,744]), (90,0,27,0,10,0,0,0,[])],
  [(90,3,7,0,3,0,0,1,[]), (93,3,26,0,4,0,0,0,[])],
  [(96,1,47,0,0,0,0,0,[])]]
/-- MergeLine$Hall.isTopToRun()Z -/
def cd_74 : List (List xI) := [[(0,1,2,1,0,0,0,0,[]), (1,3,35,0,4,4,35,0,[294]), (4,3,40,7,101,1,138,0,[733,734,735]), (7,0,27,0,1,0,0,0,[])],
  [(7,3,29,0,3,5,0,0,[]), (10,1,2,1,0,0,0,0,[]), (11,3,35,0,4,4,35,0,[294]), (14,3,40,7,103,1,147,0,[761,762,763]), (17,0,27,0,2,0,0,0,[])],
  [(17,3,29,0,3,1,0,0,[]), (20,1,0,0,0,0,0,1,[]), (21,3,26,0,4,0,0,0,[])],
  [(24,1,0,0,0,0,0,0,[]), (25,0,27,0,4,0,0,0,[])],
  [(25,1,46,0,1,0,0,0,[])]]
/-- MergeLine$Hall.runTop()V -/
def cd_75 : List (List xI) := [[(0,1,0,0,0,0,0,(-1),[]), (1,1,4,1,1,0,0,0,[]), (2,1,0,0,0,0,0,0,[]), (3,1,4,1,2,0,0,0,[]), (4,0,27,0,1,0,0,0,[])],
  [(4,1,1,1,2,0,0,0,[]), (5,1,2,1,0,0,0,0,[]), (6,3,35,0,4,1,55,0,[288]), (9,3,40,8,119,1,151,0,[769,367,368]), (12,0,27,0,2,0,0,0,[])],
  [(12,3,28,0,6,3,0,0,[]), (15,1,1,1,1,0,0,0,[]), (16,1,0,0,0,0,0,(-1),[]), (17,3,28,0,6,1,0,0,[]), (20,1,2,1,0,0,0,0,[]), (21,1,1,1,2,0,0,0,[]), (22,3,40,4,76,2,154,0,[770,772,11]), (25,0,27,0,3,0,0,0,[])],
  [(25,3,29,0,5,0,0,0,[]), (28,1,2,1,0,0,0,0,[]), (29,3,35,0,4,1,55,0,[288]), (32,1,1,1,2,0,0,0,[]), (33,1,2,1,0,0,0,0,[]), (34,3,35,0,4,0,12,0,[286]), (37,2,0,1,0,0,0,61,[]), (39,3,40,8,126,4,157,0,[789,790,791]), (42,0,27,0,4,0,0,0,[])],
  [(42,3,29,0,5,1,0,0,[]), (45,1,1,1,2,0,0,0,[]), (46,1,4,1,1,0,0,0,[]), (47,0,27,0,5,0,0,0,[])],
  [(47,3,7,0,2,0,0,1,[]), (50,3,26,0,1,0,0,0,[])],
  [(53,1,2,1,0,0,0,0,[]), (54,3,35,0,4,5,42,0,[296]), (57,1,2,1,0,0,0,0,[]), (58,3,35,0,4,0,12,0,[286]), (61,3,40,0,1,1,112,0,[687,403,404]), (64,0,27,0,7,0,0,0,[])],
  [(64,1,2,1,0,0,0,0,[]), (65,3,35,0,4,4,35,0,[294]), (68,1,1,1,1,0,0,0,[]), (69,3,41,6,90,4,160,0,[795,796,797]), (72,0,27,0,8,0,0,0,[])],
  [(72,1,1,1,1,0,0,0,[]), (73,1,0,0,0,0,0,(-1),[]), (74,3,28,0,10,1,0,0,[]), (77,1,2,1,0,0,0,0,[]), (78,3,41,4,77,1,164,0,[810,812,14]), (81,0,27,0,9,0,0,0,[])],
  [(81,3,26,0,11,0,0,0,[])],
  [(84,1,2,1,0,0,0,0,[]), (85,3,35,0,4,4,35,0,[294]), (88,1,1,1,1,0,0,0,[]), (89,3,41,7,115,2,167,0,[831,832,833]), (92,0,27,0,11,0,0,0,[])],
  [(92,1,47,0,0,0,0,0,[])]]
/-- MergeLine$Hall.isTouchedByTop(I)Z -/
def cd_76 : List (List xI) := [[(0,1,2,1,0,0,0,0,[]), (1,3,35,0,4,1,55,0,[288]), (4,1,1,1,1,0,0,0,[]), (5,3,40,8,121,2,170,0,[774,567,568]), (8,0,27,0,1,0,0,0,[])],
  [(8,1,4,1,2,0,0,0,[]), (9,1,2,1,0,0,0,0,[]), (10,3,35,0,4,1,55,0,[288]), (13,1,1,1,1,0,0,0,[]), (14,3,40,8,122,2,173,0,[775,563,564]), (17,0,27,0,2,0,0,0,[])],
  [(17,1,4,1,3,0,0,0,[]), (18,1,2,1,0,0,0,0,[]), (19,3,35,0,4,4,35,0,[294]), (22,3,40,7,105,1,176,0,[776,777,778]), (25,0,27,0,3,0,0,0,[])],
  [(25,2,4,0,4,0,0,0,[]), (27,1,0,0,0,0,0,0,[]), (28,2,4,0,5,0,0,0,[]), (30,0,27,0,4,0,0,0,[])],
  [(30,2,1,0,5,0,0,0,[]), (32,2,1,0,4,0,0,0,[]), (34,3,28,0,8,3,0,0,[]), (37,1,2,1,0,0,0,0,[]), (38,3,35,0,4,2,21,0,[290]), (41,1,2,1,0,0,0,0,[]), (42,3,35,0,4,4,35,0,[294]), (45,2,1,0,5,0,0,0,[]), (47,3,40,7,107,2,179,0,[784,785,786]), (50,0,27,0,5,0,0,0,[])],
  [(50,1,1,1,2,0,0,0,[]), (51,1,1,1,3,0,0,0,[]), (52,1,2,1,0,0,0,0,[]), (53,3,35,0,4,0,12,0,[286]), (56,3,40,2,48,5,180,0,[788,571,572]), (59,0,27,0,6,0,0,0,[])],
  [(59,3,29,0,7,0,0,0,[]), (62,1,0,0,0,0,0,1,[]), (63,1,46,0,1,0,0,0,[])],
  [(64,3,7,0,5,0,0,1,[]), (67,3,26,0,4,0,0,0,[])],
  [(70,1,0,0,0,0,0,0,[]), (71,1,46,0,1,0,0,0,[])]]
/-- MergeLine$Hall.takeTop()V -/
def cd_77 : List (List xI) := [[(0,1,2,1,0,0,0,0,[]), (1,3,35,0,4,0,12,0,[286]), (4,3,41,0,15,1,184,0,[814,815,816]), (7,0,27,0,1,0,0,0,[])],
  [(7,1,2,1,0,0,0,0,[]), (8,3,35,0,4,4,35,0,[294]), (11,3,40,7,105,1,176,0,[776,777,778]), (14,0,27,0,2,0,0,0,[])],
  [(14,1,4,1,1,0,0,0,[]), (15,1,0,0,0,0,0,0,[]), (16,1,4,1,2,0,0,0,[]), (17,0,27,0,3,0,0,0,[])],
  [(17,1,1,1,2,0,0,0,[]), (18,1,1,1,1,0,0,0,[]), (19,3,28,0,9,3,0,0,[]), (22,1,2,1,0,0,0,0,[]), (23,3,35,0,4,2,21,0,[290]), (26,1,2,1,0,0,0,0,[]), (27,3,35,0,4,4,35,0,[294]), (30,1,1,1,2,0,0,0,[]), (31,3,40,7,107,2,179,0,[784,785,786]), (34,0,27,0,4,0,0,0,[])],
  [(34,1,2,1,0,0,0,0,[]), (35,3,35,0,4,0,12,0,[286]), (38,3,40,0,1,1,112,0,[687,403,404]), (41,0,27,0,5,0,0,0,[])],
  [(41,3,41,2,30,3,187,0,[819,820,821]), (44,0,27,0,6,0,0,0,[])],
  [(44,1,2,1,0,0,0,0,[]), (45,1,2,1,0,0,0,0,[]), (46,3,35,0,4,4,35,0,[294]), (49,1,1,1,2,0,0,0,[]), (50,3,40,7,107,2,179,0,[784,785,786]), (53,0,27,0,7,0,0,0,[])],
  [(53,1,0,0,0,0,0,4,[]), (54,3,41,4,64,3,135,0,[724,600,601]), (57,0,27,0,8,0,0,0,[])],
  [(57,3,7,0,2,0,0,1,[]), (60,3,26,0,3,0,0,0,[])],
  [(63,1,2,1,0,0,0,0,[]), (64,3,35,0,4,4,35,0,[294]), (67,3,41,7,114,1,190,0,[823,824,825]), (70,0,27,0,10,0,0,0,[])],
  [(70,1,47,0,0,0,0,0,[])]]
/-- MergeLine$Hall.settleTop()V -/
def cd_78 : List (List xI) := [[(0,1,2,1,0,0,0,0,[]), (1,3,35,0,4,4,35,0,[294]), (4,3,40,7,101,1,138,0,[733,734,735]), (7,0,27,0,1,0,0,0,[])],
  [(7,1,0,0,0,0,0,1,[]), (8,3,28,0,3,5,0,0,[]), (11,1,2,1,0,0,0,0,[]), (12,3,35,0,4,4,35,0,[294]), (15,3,41,7,116,1,191,0,[839,840,841]), (18,0,27,0,2,0,0,0,[])],
  [(18,1,47,0,0,0,0,0,[])],
  [(19,1,2,1,0,0,0,0,[]), (20,3,35,0,4,4,35,0,[294]), (23,3,40,7,101,1,138,0,[733,734,735]), (26,0,27,0,4,0,0,0,[])],
  [(26,1,0,0,0,0,0,1,[]), (27,3,28,0,5,1,0,0,[]), (30,1,2,1,0,0,0,0,[]), (31,3,41,4,79,1,194,0,[843,845,15]), (34,0,27,0,5,0,0,0,[])],
  [(34,1,2,1,0,0,0,0,[]), (35,3,35,0,4,4,35,0,[294]), (38,3,41,7,113,1,197,0,[855,828,829]), (41,0,27,0,6,0,0,0,[])],
  [(41,1,47,0,0,0,0,0,[])]]
/-- MergeLine$Hall.failTop()V -/
def cd_79 : List (List xI) := [[(0,1,2,1,0,0,0,0,[]), (1,3,35,0,4,4,35,0,[294]), (4,1,0,0,0,0,0,0,[]), (5,3,40,7,100,2,141,0,[738,739,740]), (8,0,27,0,1,0,0,0,[])],
  [(8,1,4,1,1,0,0,0,[]), (9,1,2,1,0,0,0,0,[]), (10,3,35,0,4,2,21,0,[290]), (13,1,1,1,1,0,0,0,[]), (14,3,40,2,34,2,77,0,[667,668,669]), (17,0,27,0,2,0,0,0,[])],
  [(17,1,4,1,2,0,0,0,[]), (18,1,2,1,0,0,0,0,[]), (19,3,35,0,4,2,21,0,[290]), (22,1,1,1,1,0,0,0,[]), (23,1,2,1,0,0,0,0,[]), (24,3,35,0,4,4,35,0,[294]), (27,3,40,7,102,1,200,0,[847,848,849]), (30,0,27,0,3,0,0,0,[])],
  [(30,3,41,2,32,3,203,0,[851,852,853]), (33,0,27,0,4,0,0,0,[])],
  [(33,1,1,1,2,0,0,0,[]), (34,1,0,0,0,0,0,(-1),[]), (35,3,28,0,6,0,0,0,[]), (38,1,2,1,0,0,0,0,[]), (39,3,35,0,4,2,21,0,[290]), (42,1,1,1,2,0,0,0,[]), (43,1,2,1,0,0,0,0,[]), (44,3,35,0,4,4,35,0,[294]), (47,3,40,7,102,1,200,0,[847,848,849]), (50,0,27,0,5,0,0,0,[])],
  [(50,3,41,2,32,3,203,0,[851,852,853]), (53,0,27,0,6,0,0,0,[])],
  [(53,1,2,1,0,0,0,0,[]), (54,1,1,1,1,0,0,0,[]), (55,2,0,1,0,0,0,6,[]), (57,3,41,4,72,3,122,0,[720,722,8]), (60,0,27,0,7,0,0,0,[])],
  [(60,1,47,0,0,0,0,0,[])]]
/-- MergeLine$Hall.takeOver(LMergeLine$Hall;)V -/
def cd_80 : List (List xI) := [[(0,1,2,1,0,0,0,0,[]), (1,3,35,0,4,0,12,0,[286]), (4,1,2,1,1,0,0,0,[]), (5,3,35,0,4,0,12,0,[286]), (8,3,41,0,16,2,206,0,[928,929,930]), (11,0,27,0,1,0,0,0,[])],
  [(11,1,2,1,0,0,0,0,[]), (12,3,35,0,4,1,55,0,[288]), (15,1,2,1,1,0,0,0,[]), (16,3,35,0,4,1,55,0,[288]), (19,3,41,8,131,2,210,0,[932,933,934]), (22,0,27,0,2,0,0,0,[])],
  [(22,1,2,1,0,0,0,0,[]), (23,3,35,0,4,2,21,0,[290]), (26,1,2,1,1,0,0,0,[]), (27,3,35,0,4,2,21,0,[290]), (30,3,41,2,49,2,213,0,[943,944,945]), (33,0,27,0,3,0,0,0,[])],
  [(33,1,2,1,0,0,0,0,[]), (34,3,35,0,4,3,28,0,[292]), (37,1,2,1,1,0,0,0,[]), (38,3,35,0,4,3,28,0,[292]), (41,3,41,5,87,2,216,0,[953,954,955]), (44,0,27,0,4,0,0,0,[])],
  [(44,1,2,1,0,0,0,0,[]), (45,3,35,0,4,4,35,0,[294]), (48,1,2,1,1,0,0,0,[]), (49,3,35,0,4,4,35,0,[294]), (52,3,41,7,117,2,219,0,[958,959,960]), (55,0,27,0,5,0,0,0,[])],
  [(55,1,2,1,0,0,0,0,[]), (56,3,35,0,4,5,42,0,[296]), (59,1,2,1,1,0,0,0,[]), (60,3,35,0,4,5,42,0,[296]), (63,3,41,6,96,2,222,0,[963,964,965]), (66,0,27,0,6,0,0,0,[])],
  [(66,1,2,1,0,0,0,0,[]), (67,1,2,1,1,0,0,0,[]), (68,3,34,0,4,6,46,0,[298]), (71,3,36,0,4,6,46,0,[298]), (74,1,47,0,0,0,0,0,[])]]
/-- MergeLine$Lane.<init>()V -/
def cd_81 : List (List xI) := [[(0,1,2,1,0,0,0,0,[]), (1,3,43,0,0,0,3,0,[186]), (4,1,2,1,0,0,0,0,[]), (5,3,38,0,1,0,9,0,[187]), (8,1,23,0,0,0,0,0,[]), (9,2,0,1,0,0,0,60,[]), (11,3,48,0,17,2,11,0,[188,113]), (14,0,27,0,1,0,0,0,[])],
  [(14,3,37,0,5,0,14,0,[189]), (17,1,2,1,0,0,0,0,[]), (18,1,0,0,0,0,0,0,[]), (19,3,36,0,5,1,20,0,[190]), (22,1,47,0,0,0,0,0,[])]]
/-- MergeLine$Lane.length()I -/
def cd_82 : List (List xI) := [[(0,1,2,1,0,0,0,0,[]), (1,3,34,0,5,1,20,0,[190]), (4,1,46,0,0,0,0,0,[])]]
/-- MergeLine$Lane.add(I)I -/
def cd_83 : List (List xI) := [[(0,1,2,1,0,0,0,0,[]), (1,3,35,0,5,0,14,0,[189]), (4,1,2,1,0,0,0,0,[]), (5,3,34,0,5,1,20,0,[190]), (8,1,1,1,1,0,0,0,[]), (9,3,41,1,19,3,24,0,[594,375,376]), (12,0,27,0,1,0,0,0,[])],
  [(12,1,2,1,0,0,0,0,[]), (13,1,23,0,0,0,0,0,[]), (14,3,34,0,5,1,20,0,[190]), (17,1,0,0,0,0,0,1,[]), (18,1,8,0,0,0,0,0,[]), (19,3,36,0,5,1,20,0,[190]), (22,1,2,1,0,0,0,0,[]), (23,3,34,0,5,1,20,0,[190]), (26,1,0,0,0,0,0,1,[]), (27,1,9,0,0,0,0,0,[]), (28,1,46,0,0,0,0,0,[])]]
/-- MergeLine$Lane.changeAt(I)I -/
def cd_84 : List (List xI) := [[(0,1,1,1,1,0,0,0,[]), (1,1,2,1,0,0,0,0,[]), (2,3,34,0,5,1,20,0,[190]), (5,3,42,1,159,2,28,0,[662,329]), (8,0,27,0,1,0,0,0,[])],
  [(8,3,29,0,3,0,0,0,[]), (11,1,2,1,0,0,0,0,[]), (12,3,35,0,5,0,14,0,[189]), (15,1,1,1,1,0,0,0,[]), (16,3,40,1,18,2,32,0,[608,411,412]), (19,0,27,0,2,0,0,0,[])],
  [(19,3,26,0,4,0,0,0,[])],
  [(22,1,0,0,0,0,0,(-1),[]), (23,0,27,0,4,0,0,0,[])],
  [(23,1,46,0,0,0,0,0,[])]]
/-- MergeLine$Lane.placeOf(I)I -/
def cd_85 : List (List xI) := [[(0,1,0,0,0,0,0,0,[]), (1,1,4,1,2,0,0,0,[]), (2,0,27,0,1,0,0,0,[])],
  [(2,1,1,1,2,0,0,0,[]), (3,1,2,1,0,0,0,0,[]), (4,3,34,0,5,1,20,0,[190]), (7,3,28,0,4,3,0,0,[]), (10,1,2,1,0,0,0,0,[]), (11,3,35,0,5,0,14,0,[189]), (14,1,1,1,2,0,0,0,[]), (15,3,40,1,18,2,32,0,[608,411,412]), (18,0,27,0,2,0,0,0,[])],
  [(18,1,1,1,1,0,0,0,[]), (19,3,28,0,3,1,0,0,[]), (22,1,1,1,2,0,0,0,[]), (23,1,46,0,0,0,0,0,[])],
  [(24,3,7,0,2,0,0,1,[]), (27,3,26,0,1,0,0,0,[])],
  [(30,1,0,0,0,0,0,(-1),[]), (31,1,46,0,0,0,0,0,[])]]
/-- MergeLine$Lane.drop(I)V -/
def cd_86 : List (List xI) := [[(0,1,0,0,0,0,0,0,[]), (1,1,4,1,2,0,0,0,[]), (2,1,0,0,0,0,0,0,[]), (3,1,4,1,3,0,0,0,[]), (4,0,27,0,1,0,0,0,[])],
  [(4,1,1,1,3,0,0,0,[]), (5,1,2,1,0,0,0,0,[]), (6,3,34,0,5,1,20,0,[190]), (9,3,28,0,5,3,0,0,[]), (12,1,2,1,0,0,0,0,[]), (13,3,35,0,5,0,14,0,[189]), (16,1,1,1,3,0,0,0,[]), (17,3,40,1,18,2,32,0,[608,411,412]), (20,0,27,0,2,0,0,0,[])],
  [(20,2,4,0,4,0,0,0,[]), (22,2,1,0,4,0,0,0,[]), (24,1,1,1,1,0,0,0,[]), (25,3,28,0,4,0,0,0,[]), (28,1,2,1,0,0,0,0,[]), (29,3,35,0,5,0,14,0,[189]), (32,1,1,1,2,0,0,0,[]), (33,2,1,0,4,0,0,0,[]), (35,3,41,1,19,3,24,0,[594,375,376]), (38,0,27,0,3,0,0,0,[])],
  [(38,3,7,0,2,0,0,1,[]), (41,0,27,0,4,0,0,0,[])],
  [(41,3,7,0,3,0,0,1,[]), (44,3,26,0,1,0,0,0,[])],
  [(47,1,2,1,0,0,0,0,[]), (48,1,1,1,2,0,0,0,[]), (49,3,36,0,5,1,20,0,[190]), (52,1,47,0,0,0,0,0,[])]]
/-- MergeLine$Lane.takeOver(LMergeLine$Lane;)V -/
def cd_87 : List (List xI) := [[(0,1,2,1,0,0,0,0,[]), (1,3,35,0,5,0,14,0,[189]), (4,1,2,1,1,0,0,0,[]), (5,3,35,0,5,0,14,0,[189]), (8,3,41,1,21,2,36,0,[957,937,938]), (11,0,27,0,1,0,0,0,[])],
  [(11,1,2,1,0,0,0,0,[]), (12,1,2,1,1,0,0,0,[]), (13,3,34,0,5,1,20,0,[190]), (16,3,36,0,5,1,20,0,[190]), (19,1,47,0,0,0,0,0,[])]]
/-- MergeLine$Ledger.<init>()V -/
def cd_88 : List (List xI) := [[(0,1,2,1,0,0,0,0,[]), (1,3,43,0,0,0,3,0,[234]), (4,1,2,1,0,0,0,0,[]), (5,3,38,0,1,0,9,0,[235]), (8,1,23,0,0,0,0,0,[]), (9,3,0,2,0,0,0,2400,[]), (12,3,48,0,17,2,11,0,[236,113]), (15,0,27,0,1,0,0,0,[])],
  [(15,3,37,0,6,0,14,0,[237]), (18,1,2,1,0,0,0,0,[]), (19,3,38,0,1,0,9,0,[235]), (22,1,23,0,0,0,0,0,[]), (23,3,0,2,0,0,0,2400,[]), (26,3,48,0,17,2,11,0,[236,113]), (29,0,27,0,2,0,0,0,[])],
  [(29,3,37,0,6,1,20,0,[238]), (32,1,2,1,0,0,0,0,[]), (33,1,0,0,0,0,0,0,[]), (34,3,36,0,6,2,23,0,[239]), (37,1,47,0,0,0,0,0,[])]]
/-- MergeLine$Ledger.runs()I -/
def cd_89 : List (List xI) := [[(0,1,2,1,0,0,0,0,[]), (1,3,34,0,6,2,23,0,[239]), (4,1,46,0,0,0,0,0,[])]]
/-- MergeLine$Ledger.write(ILMergeLine$Pile;I)V -/
def cd_90 : List (List xI) := [[(0,1,2,1,2,0,0,0,[]), (1,3,40,7,105,1,27,0,[799,777,778]), (4,0,27,0,1,0,0,0,[])],
  [(4,2,4,0,4,0,0,0,[]), (6,1,2,1,0,0,0,0,[]), (7,1,0,0,0,0,0,0,[]), (8,1,1,1,1,0,0,0,[]), (9,3,41,6,91,3,33,0,[800,802,13]), (12,0,27,0,2,0,0,0,[])],
  [(12,1,2,1,0,0,0,0,[]), (13,1,0,0,0,0,0,1,[]), (14,2,1,0,4,0,0,0,[]), (16,3,41,6,91,3,33,0,[800,802,13]), (19,0,27,0,3,0,0,0,[])],
  [(19,1,2,1,0,0,0,0,[]), (20,1,0,0,0,0,0,2,[]), (21,1,2,1,2,0,0,0,[]), (22,2,1,0,4,0,0,0,[]), (24,3,42,0,92,2,37,0,[805,806]), (27,0,27,0,4,0,0,0,[])],
  [(27,3,41,6,91,3,33,0,[800,802,13]), (30,0,27,0,5,0,0,0,[])],
  [(30,1,2,1,0,0,0,0,[]), (31,1,0,0,0,0,0,3,[]), (32,1,1,1,3,0,0,0,[]), (33,3,41,6,91,3,33,0,[800,802,13]), (36,0,27,0,6,0,0,0,[])],
  [(36,1,2,1,0,0,0,0,[]), (37,1,23,0,0,0,0,0,[]), (38,3,34,0,6,2,23,0,[239]), (41,1,0,0,0,0,0,1,[]), (42,1,8,0,0,0,0,0,[]), (43,3,36,0,6,2,23,0,[239]), (46,1,47,0,0,0,0,0,[])]]
/-- MergeLine$Ledger.setFact(II)V -/
def cd_91 : List (List xI) := [[(0,1,2,1,0,0,0,0,[]), (1,3,35,0,6,0,14,0,[237]), (4,1,2,1,0,0,0,0,[]), (5,3,34,0,6,2,23,0,[239]), (8,1,0,0,0,0,0,4,[]), (9,1,10,0,0,0,0,0,[]), (10,1,1,1,1,0,0,0,[]), (11,1,8,0,0,0,0,0,[]), (12,1,1,1,2,0,0,0,[]), (13,3,41,1,19,3,41,0,[804,375,376]), (16,0,27,0,1,0,0,0,[])],
  [(16,1,2,1,0,0,0,0,[]), (17,3,35,0,6,1,20,0,[238]), (20,1,2,1,0,0,0,0,[]), (21,3,34,0,6,2,23,0,[239]), (24,1,0,0,0,0,0,4,[]), (25,1,10,0,0,0,0,0,[]), (26,1,1,1,1,0,0,0,[]), (27,1,8,0,0,0,0,0,[]), (28,1,1,1,2,0,0,0,[]), (29,3,41,1,19,3,41,0,[804,375,376]), (32,0,27,0,2,0,0,0,[])],
  [(32,1,47,0,0,0,0,0,[])]]
/-- MergeLine$Ledger.sumOf(LMergeLine$Pile;I)I -/
def cd_92 : List (List xI) := [[(0,1,0,0,0,0,0,0,[]), (1,1,4,1,2,0,0,0,[]), (2,1,0,0,0,0,0,1,[]), (3,1,4,1,3,0,0,0,[]), (4,1,0,0,0,0,0,0,[]), (5,2,4,0,4,0,0,0,[]), (7,0,27,0,1,0,0,0,[])],
  [(7,2,1,0,4,0,0,0,[]), (9,1,1,1,1,0,0,0,[]), (10,3,28,0,3,3,0,0,[]), (13,1,1,1,2,0,0,0,[]), (14,1,2,1,0,0,0,0,[]), (15,2,1,0,4,0,0,0,[]), (17,3,40,7,107,2,44,0,[808,785,786]), (20,0,27,0,2,0,0,0,[])],
  [(20,1,0,0,0,0,0,1,[]), (21,1,8,0,0,0,0,0,[]), (22,1,1,1,3,0,0,0,[]), (23,1,10,0,0,0,0,0,[]), (24,1,8,0,0,0,0,0,[]), (25,2,0,3,0,0,48,1000003,[809]), (27,1,12,0,0,0,0,0,[]), (28,1,4,1,2,0,0,0,[]), (29,1,1,1,3,0,0,0,[]), (30,2,0,1,0,0,0,61,[]), (32,1,10,0,0,0,0,0,[]), (33,2,0,3,0,0,48,1000003,[809]), (35,1,12,0,0,0,0,0,[]), (36,1,4,1,3,0,0,0,[]), (37,3,7,0,4,0,0,1,[]), (40,3,26,0,1,0,0,0,[])],
  [(43,1,1,1,2,0,0,0,[]), (44,1,46,0,0,0,0,0,[])]]
/-- MergeLine$Ledger.tell(II)I -/
def cd_93 : List (List xI) := [[(0,1,2,1,0,0,0,0,[]), (1,3,35,0,6,0,14,0,[237]), (4,1,1,1,1,0,0,0,[]), (5,1,0,0,0,0,0,4,[]), (6,1,10,0,0,0,0,0,[]), (7,1,1,1,2,0,0,0,[]), (8,1,8,0,0,0,0,0,[]), (9,3,40,1,18,2,49,0,[902,411,412]), (12,0,27,0,1,0,0,0,[])],
  [(12,1,46,0,0,0,0,0,[])]]
/-- MergeLine$Ledger.twist(III)I -/
def cd_94 : List (List xI) := [[(0,1,2,1,0,0,0,0,[]), (1,3,35,0,6,0,14,0,[237]), (4,1,1,1,1,0,0,0,[]), (5,1,0,0,0,0,0,4,[]), (6,1,10,0,0,0,0,0,[]), (7,1,1,1,2,0,0,0,[]), (8,1,8,0,0,0,0,0,[]), (9,1,2,1,0,0,0,0,[]), (10,1,1,1,1,0,0,0,[]), (11,1,1,1,2,0,0,0,[]), (12,3,40,6,93,3,52,0,[911,899,900]), (15,0,27,0,1,0,0,0,[])],
  [(15,1,1,1,3,0,0,0,[]), (16,1,15,0,0,0,0,0,[]), (17,3,41,1,19,3,41,0,[804,375,376]), (20,0,27,0,2,0,0,0,[])],
  [(20,1,2,1,0,0,0,0,[]), (21,1,1,1,1,0,0,0,[]), (22,1,1,1,2,0,0,0,[]), (23,3,40,6,93,3,52,0,[911,899,900]), (26,0,27,0,3,0,0,0,[])],
  [(26,1,46,0,0,0,0,0,[])]]
/-- MergeLine$Ledger.firstWrong()I -/
def cd_95 : List (List xI) := [[(0,1,0,0,0,0,0,0,[]), (1,1,4,1,1,0,0,0,[]), (2,0,27,0,1,0,0,0,[])],
  [(2,1,1,1,1,0,0,0,[]), (3,1,2,1,0,0,0,0,[]), (4,3,34,0,6,2,23,0,[239]), (7,1,0,0,0,0,0,4,[]), (8,1,10,0,0,0,0,0,[]), (9,3,28,0,5,3,0,0,[]), (12,1,2,1,0,0,0,0,[]), (13,3,35,0,6,0,14,0,[237]), (16,1,1,1,1,0,0,0,[]), (17,3,40,1,18,2,49,0,[902,411,412]), (20,0,27,0,2,0,0,0,[])],
  [(20,1,2,1,0,0,0,0,[]), (21,3,35,0,6,1,20,0,[238]), (24,1,1,1,1,0,0,0,[]), (25,3,40,1,18,2,49,0,[902,411,412]), (28,0,27,0,3,0,0,0,[])],
  [(28,3,28,0,4,0,0,0,[]), (31,1,1,1,1,0,0,0,[]), (32,1,0,0,0,0,0,4,[]), (33,1,11,0,0,0,0,0,[]), (34,1,46,0,0,0,0,0,[])],
  [(35,3,7,0,1,0,0,1,[]), (38,3,26,0,1,0,0,0,[])],
  [(41,1,0,0,0,0,0,(-1),[]), (42,1,46,0,0,0,0,0,[])]]
/-- MergeLine$Ledger.takeOver(LMergeLine$Ledger;)V -/
def cd_96 : List (List xI) := [[(0,1,2,1,0,0,0,0,[]), (1,3,35,0,6,0,14,0,[237]), (4,1,2,1,1,0,0,0,[]), (5,3,35,0,6,0,14,0,[237]), (8,3,41,1,21,2,56,0,[967,937,938]), (11,0,27,0,1,0,0,0,[])],
  [(11,1,2,1,0,0,0,0,[]), (12,3,35,0,6,1,20,0,[238]), (15,1,2,1,1,0,0,0,[]), (16,3,35,0,6,1,20,0,[238]), (19,3,41,1,21,2,56,0,[967,937,938]), (22,0,27,0,2,0,0,0,[])],
  [(22,1,2,1,0,0,0,0,[]), (23,1,2,1,1,0,0,0,[]), (24,3,34,0,6,2,23,0,[239]), (27,3,36,0,6,2,23,0,[239]), (30,1,47,0,0,0,0,0,[])]]
/-- MergeLine$Pile.<init>()V -/
def cd_97 : List (List xI) := [[(0,1,2,1,0,0,0,0,[]), (1,3,43,0,0,0,3,0,[201]), (4,1,2,1,0,0,0,0,[]), (5,3,38,0,1,0,9,0,[202]), (8,1,23,0,0,0,0,0,[]), (9,2,0,1,0,0,0,8,[]), (11,3,48,0,17,2,11,0,[203,113]), (14,0,27,0,1,0,0,0,[])],
  [(14,3,37,0,7,0,14,0,[204]), (17,1,2,1,0,0,0,0,[]), (18,3,38,0,1,0,9,0,[202]), (21,1,23,0,0,0,0,0,[]), (22,2,0,1,0,0,0,8,[]), (24,3,48,0,17,2,11,0,[203,113]), (27,0,27,0,2,0,0,0,[])],
  [(27,3,37,0,7,1,20,0,[205]), (30,1,2,1,0,0,0,0,[]), (31,3,38,0,1,0,9,0,[202]), (34,1,23,0,0,0,0,0,[]), (35,2,0,1,0,0,0,8,[]), (37,3,48,0,17,2,11,0,[203,113]), (40,0,27,0,3,0,0,0,[])],
  [(40,3,37,0,7,2,23,0,[206]), (43,1,2,1,0,0,0,0,[]), (44,3,38,0,1,0,9,0,[202]), (47,1,23,0,0,0,0,0,[]), (48,2,0,1,0,0,0,8,[]), (50,3,48,0,17,2,11,0,[203,113]), (53,0,27,0,4,0,0,0,[])],
  [(53,3,37,0,7,3,26,0,[207]), (56,1,2,1,0,0,0,0,[]), (57,3,38,0,1,0,9,0,[202]), (60,1,23,0,0,0,0,0,[]), (61,2,0,1,0,0,0,8,[]), (63,3,48,0,17,2,11,0,[203,113]), (66,0,27,0,5,0,0,0,[])],
  [(66,3,37,0,7,4,29,0,[208]), (69,1,2,1,0,0,0,0,[]), (70,3,38,0,1,0,9,0,[202]), (73,1,23,0,0,0,0,0,[]), (74,2,0,1,0,0,0,8,[]), (76,3,48,0,17,2,11,0,[203,113]), (79,0,27,0,6,0,0,0,[])],
  [(79,3,37,0,7,5,32,0,[209]), (82,1,2,1,0,0,0,0,[]), (83,1,0,0,0,0,0,0,[]), (84,3,36,0,7,6,35,0,[210]), (87,1,2,1,0,0,0,0,[]), (88,1,0,0,0,0,0,0,[]), (89,3,36,0,7,7,39,0,[211]), (92,1,47,0,0,0,0,0,[])]]
/-- MergeLine$Pile.rows()I -/
def cd_98 : List (List xI) := [[(0,1,2,1,0,0,0,0,[]), (1,3,34,0,7,7,39,0,[211]), (4,1,46,0,0,0,0,0,[])]]
/-- MergeLine$Pile.units()I -/
def cd_99 : List (List xI) := [[(0,1,2,1,0,0,0,0,[]), (1,3,34,0,7,6,35,0,[210]), (4,1,46,0,0,0,0,0,[])]]
/-- MergeLine$Pile.headAt(I)I -/
def cd_100 : List (List xI) := [[(0,1,2,1,0,0,0,0,[]), (1,3,35,0,7,0,14,0,[204]), (4,1,1,1,1,0,0,0,[]), (5,3,40,1,18,2,42,0,[737,411,412]), (8,0,27,0,1,0,0,0,[])],
  [(8,1,46,0,0,0,0,0,[])]]
/-- MergeLine$Pile.topLength()I -/
def cd_101 : List (List xI) := [[(0,1,2,1,0,0,0,0,[]), (1,3,34,0,7,7,39,0,[211]), (4,3,29,0,2,5,0,0,[]), (7,1,2,1,0,0,0,0,[]), (8,3,35,0,7,2,23,0,[206]), (11,1,2,1,0,0,0,0,[]), (12,3,34,0,7,7,39,0,[211]), (15,1,0,0,0,0,0,1,[]), (16,1,9,0,0,0,0,0,[]), (17,3,40,1,18,2,42,0,[737,411,412]), (20,0,27,0,1,0,0,0,[])],
  [(20,3,26,0,3,0,0,0,[])],
  [(23,1,0,0,0,0,0,0,[]), (24,0,27,0,3,0,0,0,[])],
  [(24,1,46,0,0,0,0,0,[])]]
/-- MergeLine$Pile.topFailure()I -/
def cd_102 : List (List xI) := [[(0,1,2,1,0,0,0,0,[]), (1,3,35,0,7,5,32,0,[209]), (4,1,2,1,0,0,0,0,[]), (5,3,34,0,7,7,39,0,[211]), (8,1,0,0,0,0,0,1,[]), (9,1,9,0,0,0,0,0,[]), (10,3,40,1,18,2,42,0,[737,411,412]), (13,0,27,0,1,0,0,0,[])],
  [(13,1,46,0,0,0,0,0,[])]]
/-- MergeLine$Pile.isTopDoomed()Z -/
def cd_103 : List (List xI) := [[(0,1,2,1,0,0,0,0,[]), (1,3,34,0,7,7,39,0,[211]), (4,3,29,0,2,5,0,0,[]), (7,1,2,1,0,0,0,0,[]), (8,3,35,0,7,3,26,0,[207]), (11,1,2,1,0,0,0,0,[]), (12,3,34,0,7,7,39,0,[211]), (15,1,0,0,0,0,0,1,[]), (16,1,9,0,0,0,0,0,[]), (17,3,40,1,18,2,42,0,[737,411,412]), (20,0,27,0,1,0,0,0,[])],
  [(20,1,0,0,0,0,0,1,[]), (21,3,28,0,2,1,0,0,[]), (24,1,0,0,0,0,0,1,[]), (25,3,26,0,3,0,0,0,[])],
  [(28,1,0,0,0,0,0,0,[]), (29,0,27,0,3,0,0,0,[])],
  [(29,1,46,0,1,0,0,0,[])]]
/-- MergeLine$Pile.changeCount()I -/
def cd_104 : List (List xI) := [[(0,1,2,1,0,0,0,0,[]), (1,1,2,1,0,0,0,0,[]), (2,3,34,0,7,6,35,0,[210]), (5,3,40,7,106,2,46,0,[780,782,12]), (8,0,27,0,1,0,0,0,[])],
  [(8,1,46,0,0,0,0,0,[])]]
/-- MergeLine$Pile.topChangeCount()I -/
def cd_105 : List (List xI) := [[(0,1,2,1,0,0,0,0,[]), (1,1,2,1,0,0,0,0,[]), (2,3,40,7,101,1,49,0,[746,734,735]), (5,0,27,0,1,0,0,0,[])],
  [(5,3,40,7,106,2,46,0,[780,782,12]), (8,0,27,0,2,0,0,0,[])],
  [(8,1,46,0,0,0,0,0,[])]]
/-- MergeLine$Pile.changesAhead(I)I -/
def cd_106 : List (List xI) := [[(0,1,0,0,0,0,0,0,[]), (1,1,4,1,2,0,0,0,[]), (2,1,0,0,0,0,0,0,[]), (3,1,4,1,3,0,0,0,[]), (4,0,27,0,1,0,0,0,[])],
  [(4,1,1,1,3,0,0,0,[]), (5,1,1,1,1,0,0,0,[]), (6,3,28,0,5,3,0,0,[]), (9,1,1,1,2,0,0,0,[]), (10,1,2,1,0,0,0,0,[]), (11,3,35,0,7,1,20,0,[205]), (14,1,1,1,3,0,0,0,[]), (15,3,40,1,18,2,42,0,[737,411,412]), (18,0,27,0,2,0,0,0,[])],
  [(18,1,0,0,0,0,0,(-1),[]), (19,3,28,0,3,1,0,0,[]), (22,1,0,0,0,0,0,1,[]), (23,3,26,0,4,0,0,0,[])],
  [(26,1,0,0,0,0,0,2,[]), (27,0,27,0,4,0,0,0,[])],
  [(27,1,8,0,0,0,0,0,[]), (28,1,4,1,2,0,0,0,[]), (29,3,7,0,3,0,0,1,[]), (32,3,26,0,1,0,0,0,[])],
  [(35,1,1,1,2,0,0,0,[]), (36,1,46,0,0,0,0,0,[])]]
/-- MergeLine$Pile.changeAt(I)I -/
def cd_107 : List (List xI) := [[(0,1,1,1,1,0,0,0,[]), (1,1,4,1,2,0,0,0,[]), (2,1,0,0,0,0,0,0,[]), (3,1,4,1,3,0,0,0,[]), (4,0,27,0,1,0,0,0,[])],
  [(4,1,1,1,3,0,0,0,[]), (5,1,2,1,0,0,0,0,[]), (6,3,34,0,7,6,35,0,[210]), (9,3,28,0,10,3,0,0,[]), (12,1,1,1,2,0,0,0,[]), (13,3,29,0,10,2,0,0,[]), (16,1,1,1,2,0,0,0,[]), (17,3,29,0,3,1,0,0,[]), (20,1,2,1,0,0,0,0,[]), (21,3,35,0,7,0,14,0,[204]), (24,1,1,1,3,0,0,0,[]), (25,3,40,1,18,2,42,0,[737,411,412]), (28,0,27,0,2,0,0,0,[])],
  [(28,1,46,0,0,0,0,0,[])],
  [(29,1,1,1,2,0,0,0,[]), (30,1,0,0,0,0,0,1,[]), (31,3,28,0,6,1,0,0,[]), (34,1,2,1,0,0,0,0,[]), (35,3,35,0,7,1,20,0,[205]), (38,1,1,1,3,0,0,0,[]), (39,3,40,1,18,2,42,0,[737,411,412]), (42,0,27,0,4,0,0,0,[])],
  [(42,1,0,0,0,0,0,(-1),[]), (43,3,28,0,6,0,0,0,[]), (46,1,2,1,0,0,0,0,[]), (47,3,35,0,7,1,20,0,[205]), (50,1,1,1,3,0,0,0,[]), (51,3,40,1,18,2,42,0,[737,411,412]), (54,0,27,0,5,0,0,0,[])],
  [(54,1,46,0,0,0,0,0,[])],
  [(55,1,1,1,2,0,0,0,[]), (56,1,2,1,0,0,0,0,[]), (57,3,35,0,7,1,20,0,[205]), (60,1,1,1,3,0,0,0,[]), (61,3,40,1,18,2,42,0,[737,411,412]), (64,0,27,0,7,0,0,0,[])],
  [(64,1,0,0,0,0,0,(-1),[]), (65,3,28,0,8,1,0,0,[]), (68,1,0,0,0,0,0,1,[]), (69,3,26,0,9,0,0,0,[])],
  [(72,1,0,0,0,0,0,2,[]), (73,0,27,0,9,0,0,0,[])],
  [(73,1,9,0,0,0,0,0,[]), (74,1,4,1,2,0,0,0,[]), (75,3,7,0,3,0,0,1,[]), (78,3,26,0,1,0,0,0,[])],
  [(81,1,0,0,0,0,0,(-1),[]), (82,1,46,0,0,0,0,0,[])]]
/-- MergeLine$Pile.holdsChange(I)Z -/
def cd_108 : List (List xI) := [[(0,1,0,0,0,0,0,0,[]), (1,1,4,1,2,0,0,0,[]), (2,0,27,0,1,0,0,0,[])],
  [(2,1,1,1,2,0,0,0,[]), (3,1,2,1,0,0,0,0,[]), (4,3,34,0,7,6,35,0,[210]), (7,3,28,0,6,3,0,0,[]), (10,1,2,1,0,0,0,0,[]), (11,3,35,0,7,0,14,0,[204]), (14,1,1,1,2,0,0,0,[]), (15,3,40,1,18,2,42,0,[737,411,412]), (18,0,27,0,2,0,0,0,[])],
  [(18,1,1,1,1,0,0,0,[]), (19,3,28,0,4,0,0,0,[]), (22,1,2,1,0,0,0,0,[]), (23,3,35,0,7,1,20,0,[205]), (26,1,1,1,2,0,0,0,[]), (27,3,40,1,18,2,42,0,[737,411,412]), (30,0,27,0,3,0,0,0,[])],
  [(30,1,1,1,1,0,0,0,[]), (31,3,28,0,5,1,0,0,[]), (34,0,27,0,4,0,0,0,[])],
  [(34,1,0,0,0,0,0,1,[]), (35,1,46,0,1,0,0,0,[])],
  [(36,3,7,0,2,0,0,1,[]), (39,3,26,0,1,0,0,0,[])],
  [(42,1,0,0,0,0,0,0,[]), (43,1,46,0,1,0,0,0,[])]]
/-- MergeLine$Pile.add(II)V -/
def cd_109 : List (List xI) := [[(0,1,2,1,0,0,0,0,[]), (1,3,34,0,7,6,35,0,[210]), (4,2,0,1,0,0,0,8,[]), (6,3,28,0,1,2,0,0,[]), (9,1,47,0,0,0,0,0,[])],
  [(10,1,2,1,0,0,0,0,[]), (11,3,34,0,7,7,39,0,[211]), (14,3,29,0,2,1,0,0,[]), (17,1,2,1,0,0,0,0,[]), (18,1,0,0,0,0,0,0,[]), (19,1,0,0,0,0,0,0,[]), (20,1,0,0,0,0,0,(-1),[]), (21,3,41,7,110,4,53,0,[715,717,7]), (24,0,27,0,2,0,0,0,[])],
  [(24,1,2,1,0,0,0,0,[]), (25,3,35,0,7,0,14,0,[204]), (28,1,2,1,0,0,0,0,[]), (29,3,34,0,7,6,35,0,[210]), (32,1,1,1,1,0,0,0,[]), (33,3,41,1,19,3,57,0,[719,375,376]), (36,0,27,0,3,0,0,0,[])],
  [(36,1,2,1,0,0,0,0,[]), (37,3,35,0,7,1,20,0,[205]), (40,1,2,1,0,0,0,0,[]), (41,3,34,0,7,6,35,0,[210]), (44,1,1,1,2,0,0,0,[]), (45,3,41,1,19,3,57,0,[719,375,376]), (48,0,27,0,4,0,0,0,[])],
  [(48,1,2,1,0,0,0,0,[]), (49,1,23,0,0,0,0,0,[]), (50,3,34,0,7,6,35,0,[210]), (53,1,0,0,0,0,0,1,[]), (54,1,8,0,0,0,0,0,[]), (55,3,36,0,7,6,35,0,[210]), (58,1,2,1,0,0,0,0,[]), (59,3,35,0,7,2,23,0,[206]), (62,1,0,0,0,0,0,0,[]), (63,1,2,1,0,0,0,0,[]), (64,3,34,0,7,6,35,0,[210]), (67,3,41,1,19,3,57,0,[719,375,376]), (70,0,27,0,5,0,0,0,[])],
  [(70,1,47,0,0,0,0,0,[])]]
/-- MergeLine$Pile.push(III)V -/
def cd_110 : List (List xI) := [[(0,1,2,1,0,0,0,0,[]), (1,3,35,0,7,2,23,0,[206]), (4,1,2,1,0,0,0,0,[]), (5,3,34,0,7,7,39,0,[211]), (8,1,1,1,1,0,0,0,[]), (9,3,41,1,19,3,57,0,[719,375,376]), (12,0,27,0,1,0,0,0,[])],
  [(12,1,2,1,0,0,0,0,[]), (13,3,35,0,7,3,26,0,[207]), (16,1,2,1,0,0,0,0,[]), (17,3,34,0,7,7,39,0,[211]), (20,1,0,0,0,0,0,0,[]), (21,3,41,1,19,3,57,0,[719,375,376]), (24,0,27,0,2,0,0,0,[])],
  [(24,1,2,1,0,0,0,0,[]), (25,3,35,0,7,4,29,0,[208]), (28,1,2,1,0,0,0,0,[]), (29,3,34,0,7,7,39,0,[211]), (32,1,1,1,2,0,0,0,[]), (33,3,41,1,19,3,57,0,[719,375,376]), (36,0,27,0,3,0,0,0,[])],
  [(36,1,2,1,0,0,0,0,[]), (37,3,35,0,7,5,32,0,[209]), (40,1,2,1,0,0,0,0,[]), (41,3,34,0,7,7,39,0,[211]), (44,1,1,1,3,0,0,0,[]), (45,3,41,1,19,3,57,0,[719,375,376]), (48,0,27,0,4,0,0,0,[])],
  [(48,1,2,1,0,0,0,0,[]), (49,1,23,0,0,0,0,0,[]), (50,3,34,0,7,7,39,0,[211]), (53,1,0,0,0,0,0,1,[]), (54,1,8,0,0,0,0,0,[]), (55,3,36,0,7,7,39,0,[211]), (58,1,47,0,0,0,0,0,[])]]
/-- MergeLine$Pile.dropUnit(I)V -/
def cd_111 : List (List xI) := [[(0,1,1,1,1,0,0,0,[]), (1,1,2,1,0,0,0,0,[]), (2,3,40,7,101,1,49,0,[746,734,735]), (5,0,27,0,1,0,0,0,[])],
  [(5,3,42,1,159,2,61,0,[747,329]), (8,0,27,0,2,0,0,0,[])],
  [(8,3,29,0,3,1,0,0,[]), (11,1,47,0,0,0,0,0,[])],
  [(12,1,2,1,0,0,0,0,[]), (13,1,1,1,1,0,0,0,[]), (14,1,0,0,0,0,0,1,[]), (15,3,41,7,112,3,65,0,[748,750,10]), (18,0,27,0,4,0,0,0,[])],
  [(18,1,2,1,0,0,0,0,[]), (19,3,35,0,7,2,23,0,[206]), (22,1,2,1,0,0,0,0,[]), (23,3,34,0,7,7,39,0,[211]), (26,1,0,0,0,0,0,1,[]), (27,1,9,0,0,0,0,0,[]), (28,1,2,1,0,0,0,0,[]), (29,3,35,0,7,2,23,0,[206]), (32,1,2,1,0,0,0,0,[]), (33,3,34,0,7,7,39,0,[211]), (36,1,0,0,0,0,0,1,[]), (37,1,9,0,0,0,0,0,[]), (38,3,40,1,18,2,42,0,[737,411,412]), (41,0,27,0,5,0,0,0,[])],
  [(41,1,0,0,0,0,0,1,[]), (42,1,9,0,0,0,0,0,[]), (43,3,41,1,19,3,57,0,[719,375,376]), (46,0,27,0,6,0,0,0,[])],
  [(46,1,2,1,0,0,0,0,[]), (47,3,35,0,7,3,26,0,[207]), (50,1,2,1,0,0,0,0,[]), (51,3,34,0,7,7,39,0,[211]), (54,1,0,0,0,0,0,1,[]), (55,1,9,0,0,0,0,0,[]), (56,1,0,0,0,0,0,0,[]), (57,3,41,1,19,3,57,0,[719,375,376]), (60,0,27,0,7,0,0,0,[])],
  [(60,1,2,1,0,0,0,0,[]), (61,3,35,0,7,4,29,0,[208]), (64,1,2,1,0,0,0,0,[]), (65,3,34,0,7,7,39,0,[211]), (68,1,0,0,0,0,0,1,[]), (69,1,9,0,0,0,0,0,[]), (70,1,0,0,0,0,0,0,[]), (71,3,41,1,19,3,57,0,[719,375,376]), (74,0,27,0,8,0,0,0,[])],
  [(74,1,47,0,0,0,0,0,[])]]
/-- MergeLine$Pile.dropUnits(II)V -/
def cd_112 : List (List xI) := [[(0,1,2,1,0,0,0,0,[]), (1,3,34,0,7,6,35,0,[210]), (4,1,1,1,1,0,0,0,[]), (5,1,9,0,0,0,0,0,[]), (6,1,1,1,2,0,0,0,[]), (7,1,9,0,0,0,0,0,[]), (8,1,4,1,3,0,0,0,[]), (9,1,2,1,0,0,0,0,[]), (10,3,35,0,7,0,14,0,[204]), (13,1,1,1,1,0,0,0,[]), (14,1,1,1,2,0,0,0,[]), (15,1,8,0,0,0,0,0,[]), (16,1,1,1,1,0,0,0,[]), (17,1,1,1,3,0,0,0,[]), (18,3,41,1,20,4,68,0,[752,753,754]), (21,0,27,0,1,0,0,0,[])],
  [(21,1,2,1,0,0,0,0,[]), (22,3,35,0,7,1,20,0,[205]), (25,1,1,1,1,0,0,0,[]), (26,1,1,1,2,0,0,0,[]), (27,1,8,0,0,0,0,0,[]), (28,1,1,1,1,0,0,0,[]), (29,1,1,1,3,0,0,0,[]), (30,3,41,1,20,4,68,0,[752,753,754]), (33,0,27,0,2,0,0,0,[])],
  [(33,1,2,1,0,0,0,0,[]), (34,1,23,0,0,0,0,0,[]), (35,3,34,0,7,6,35,0,[210]), (38,1,1,1,2,0,0,0,[]), (39,1,9,0,0,0,0,0,[]), (40,3,36,0,7,6,35,0,[210]), (43,1,47,0,0,0,0,0,[])]]
/-- MergeLine$Pile.dropTop()V -/
def cd_113 : List (List xI) := [[(0,1,2,1,0,0,0,0,[]), (1,3,34,0,7,7,39,0,[211]), (4,3,29,0,1,1,0,0,[]), (7,1,47,0,0,0,0,0,[])],
  [(8,1,2,1,0,0,0,0,[]), (9,1,0,0,0,0,0,0,[]), (10,1,2,1,0,0,0,0,[]), (11,3,40,7,101,1,49,0,[746,734,735]), (14,0,27,0,2,0,0,0,[])],
  [(14,3,41,7,112,3,65,0,[748,750,10]), (17,0,27,0,3,0,0,0,[])],
  [(17,1,2,1,0,0,0,0,[]), (18,1,23,0,0,0,0,0,[]), (19,3,34,0,7,7,39,0,[211]), (22,1,0,0,0,0,0,1,[]), (23,1,9,0,0,0,0,0,[]), (24,3,36,0,7,7,39,0,[211]), (27,1,47,0,0,0,0,0,[])]]
/-- MergeLine$Pile.takeTop()V -/
def cd_114 : List (List xI) := [[(0,1,2,1,0,0,0,0,[]), (1,3,34,0,7,7,39,0,[211]), (4,3,29,0,2,5,0,0,[]), (7,1,2,1,0,0,0,0,[]), (8,3,35,0,7,4,29,0,[208]), (11,1,2,1,0,0,0,0,[]), (12,3,34,0,7,7,39,0,[211]), (15,1,0,0,0,0,0,1,[]), (16,1,9,0,0,0,0,0,[]), (17,3,40,1,18,2,42,0,[737,411,412]), (20,0,27,0,1,0,0,0,[])],
  [(20,1,0,0,0,0,0,1,[]), (21,3,28,0,2,1,0,0,[]), (24,1,0,0,0,0,0,1,[]), (25,3,26,0,3,0,0,0,[])],
  [(28,1,0,0,0,0,0,0,[]), (29,0,27,0,3,0,0,0,[])],
  [(29,1,4,1,1,0,0,0,[]), (30,1,2,1,0,0,0,0,[]), (31,3,41,7,113,1,71,0,[827,828,829]), (34,0,27,0,4,0,0,0,[])],
  [(34,1,1,1,1,0,0,0,[]), (35,3,29,0,5,0,0,0,[]), (38,1,2,1,0,0,0,0,[]), (39,3,34,0,7,7,39,0,[211]), (42,3,29,0,5,5,0,0,[]), (45,1,2,1,0,0,0,0,[]), (46,3,35,0,7,3,26,0,[207]), (49,1,2,1,0,0,0,0,[]), (50,3,34,0,7,7,39,0,[211]), (53,1,0,0,0,0,0,1,[]), (54,1,9,0,0,0,0,0,[]), (55,1,0,0,0,0,0,1,[]), (56,3,41,1,19,3,57,0,[719,375,376]), (59,0,27,0,5,0,0,0,[])],
  [(59,1,47,0,0,0,0,0,[])]]
/-- MergeLine$Pile.doomTop(I)V -/
def cd_115 : List (List xI) := [[(0,1,2,1,0,0,0,0,[]), (1,3,35,0,7,3,26,0,[207]), (4,1,2,1,0,0,0,0,[]), (5,3,34,0,7,7,39,0,[211]), (8,1,0,0,0,0,0,1,[]), (9,1,9,0,0,0,0,0,[]), (10,1,0,0,0,0,0,1,[]), (11,3,41,1,19,3,57,0,[719,375,376]), (14,0,27,0,1,0,0,0,[])],
  [(14,1,2,1,0,0,0,0,[]), (15,3,35,0,7,5,32,0,[209]), (18,1,2,1,0,0,0,0,[]), (19,3,34,0,7,7,39,0,[211]), (22,1,0,0,0,0,0,1,[]), (23,1,9,0,0,0,0,0,[]), (24,1,1,1,1,0,0,0,[]), (25,3,41,1,19,3,57,0,[719,375,376]), (28,0,27,0,2,0,0,0,[])],
  [(28,1,47,0,0,0,0,0,[])]]
/-- MergeLine$Pile.halveTop()V -/
def cd_116 : List (List xI) := [[(0,1,2,1,0,0,0,0,[]), (1,3,40,7,101,1,49,0,[746,734,735]), (4,0,27,0,1,0,0,0,[])],
  [(4,1,4,1,1,0,0,0,[]), (5,1,1,1,1,0,0,0,[]), (6,1,0,0,0,0,0,2,[]), (7,3,28,0,2,3,0,0,[]), (10,1,47,0,0,0,0,0,[])],
  [(11,1,2,1,0,0,0,0,[]), (12,3,34,0,7,7,39,0,[211]), (15,1,0,0,0,0,0,1,[]), (16,1,9,0,0,0,0,0,[]), (17,1,4,1,2,0,0,0,[]), (18,1,2,1,0,0,0,0,[]), (19,3,35,0,7,2,23,0,[206]), (22,1,1,1,2,0,0,0,[]), (23,1,1,1,1,0,0,0,[]), (24,1,1,1,1,0,0,0,[]), (25,1,0,0,0,0,0,2,[]), (26,1,11,0,0,0,0,0,[]), (27,1,9,0,0,0,0,0,[]), (28,3,41,1,19,3,57,0,[719,375,376]), (31,0,27,0,3,0,0,0,[])],
  [(31,1,2,1,0,0,0,0,[]), (32,3,35,0,7,3,26,0,[207]), (35,1,1,1,2,0,0,0,[]), (36,1,0,0,0,0,0,0,[]), (37,3,41,1,19,3,57,0,[719,375,376]), (40,0,27,0,4,0,0,0,[])],
  [(40,1,2,1,0,0,0,0,[]), (41,3,35,0,7,4,29,0,[208]), (44,1,1,1,2,0,0,0,[]), (45,1,0,0,0,0,0,0,[]), (46,3,41,1,19,3,57,0,[719,375,376]), (49,0,27,0,5,0,0,0,[])],
  [(49,1,2,1,0,0,0,0,[]), (50,1,1,1,1,0,0,0,[]), (51,1,0,0,0,0,0,2,[]), (52,1,11,0,0,0,0,0,[]), (53,1,0,0,0,0,0,1,[]), (54,1,2,1,0,0,0,0,[]), (55,3,35,0,7,5,32,0,[209]), (58,1,1,1,2,0,0,0,[]), (59,3,40,1,18,2,42,0,[737,411,412]), (62,0,27,0,6,0,0,0,[])],
  [(62,3,41,7,110,4,53,0,[715,717,7]), (65,0,27,0,7,0,0,0,[])],
  [(65,1,47,0,0,0,0,0,[])]]
/-- MergeLine$Pile.takeOver(LMergeLine$Pile;)V -/
def cd_117 : List (List xI) := [[(0,1,2,1,0,0,0,0,[]), (1,3,35,0,7,0,14,0,[204]), (4,1,2,1,1,0,0,0,[]), (5,3,35,0,7,0,14,0,[204]), (8,3,41,1,21,2,74,0,[962,937,938]), (11,0,27,0,1,0,0,0,[])],
  [(11,1,2,1,0,0,0,0,[]), (12,3,35,0,7,1,20,0,[205]), (15,1,2,1,1,0,0,0,[]), (16,3,35,0,7,1,20,0,[205]), (19,3,41,1,21,2,74,0,[962,937,938]), (22,0,27,0,2,0,0,0,[])],
  [(22,1,2,1,0,0,0,0,[]), (23,3,35,0,7,2,23,0,[206]), (26,1,2,1,1,0,0,0,[]), (27,3,35,0,7,2,23,0,[206]), (30,3,41,1,21,2,74,0,[962,937,938]), (33,0,27,0,3,0,0,0,[])],
  [(33,1,2,1,0,0,0,0,[]), (34,3,35,0,7,3,26,0,[207]), (37,1,2,1,1,0,0,0,[]), (38,3,35,0,7,3,26,0,[207]), (41,3,41,1,21,2,74,0,[962,937,938]), (44,0,27,0,4,0,0,0,[])],
  [(44,1,2,1,0,0,0,0,[]), (45,3,35,0,7,4,29,0,[208]), (48,1,2,1,1,0,0,0,[]), (49,3,35,0,7,4,29,0,[208]), (52,3,41,1,21,2,74,0,[962,937,938]), (55,0,27,0,5,0,0,0,[])],
  [(55,1,2,1,0,0,0,0,[]), (56,3,35,0,7,5,32,0,[209]), (59,1,2,1,1,0,0,0,[]), (60,3,35,0,7,5,32,0,[209]), (63,3,41,1,21,2,74,0,[962,937,938]), (66,0,27,0,6,0,0,0,[])],
  [(66,1,2,1,0,0,0,0,[]), (67,1,2,1,1,0,0,0,[]), (68,3,34,0,7,6,35,0,[210]), (71,3,36,0,7,6,35,0,[210]), (74,1,2,1,0,0,0,0,[]), (75,1,2,1,1,0,0,0,[]), (76,3,34,0,7,7,39,0,[211]), (79,3,36,0,7,7,39,0,[211]), (82,1,47,0,0,0,0,0,[])]]
/-- MergeLine$Tests.<init>(I)V -/
def cd_118 : List (List xI) := [[(0,1,2,1,0,0,0,0,[]), (1,3,43,0,0,0,3,0,[252]), (4,1,2,1,0,0,0,0,[]), (5,3,38,0,1,0,9,0,[253]), (8,1,23,0,0,0,0,0,[]), (9,2,0,1,0,0,0,24,[]), (11,3,48,0,17,2,11,0,[254,113]), (14,0,27,0,1,0,0,0,[])],
  [(14,3,37,0,8,0,14,0,[255]), (17,1,2,1,0,0,0,0,[]), (18,3,38,0,1,0,9,0,[253]), (21,1,23,0,0,0,0,0,[]), (22,2,0,1,0,0,0,24,[]), (24,3,48,0,17,2,11,0,[254,113]), (27,0,27,0,2,0,0,0,[])],
  [(27,3,37,0,8,1,20,0,[256]), (30,1,2,1,0,0,0,0,[]), (31,3,38,0,1,0,9,0,[253]), (34,1,23,0,0,0,0,0,[]), (35,2,0,1,0,0,0,24,[]), (37,3,48,0,17,2,11,0,[254,113]), (40,0,27,0,3,0,0,0,[])],
  [(40,3,37,0,8,2,23,0,[257]), (43,1,2,1,0,0,0,0,[]), (44,3,38,0,1,0,9,0,[253]), (47,1,23,0,0,0,0,0,[]), (48,2,0,1,0,0,0,24,[]), (50,3,48,0,17,2,11,0,[254,113]), (53,0,27,0,4,0,0,0,[])],
  [(53,3,37,0,8,3,26,0,[258]), (56,1,2,1,0,0,0,0,[]), (57,3,38,0,1,0,9,0,[253]), (60,1,23,0,0,0,0,0,[]), (61,2,0,1,0,0,0,24,[]), (63,3,48,0,17,2,11,0,[254,113]), (66,0,27,0,5,0,0,0,[])],
  [(66,3,37,0,8,4,29,0,[259]), (69,1,2,1,0,0,0,0,[]), (70,1,0,0,0,0,0,0,[]), (71,3,36,0,8,5,32,0,[260]), (74,1,2,1,0,0,0,0,[]), (75,1,0,0,0,0,0,1,[]), (76,3,36,0,8,6,36,0,[261]), (79,1,2,1,0,0,0,0,[]), (80,1,0,0,0,0,0,1,[]), (81,3,36,0,8,7,39,0,[262]), (84,1,2,1,0,0,0,0,[]), (85,1,0,0,0,0,0,0,[]), (86,3,36,0,8,8,42,0,[263]), (89,1,2,1,0,0,0,0,[]), (90,1,1,1,1,0,0,0,[]), (91,3,36,0,8,9,45,0,[264]), (94,1,47,0,0,0,0,0,[])]]
/-- MergeLine$Tests.made()I -/
def cd_119 : List (List xI) := [[(0,1,2,1,0,0,0,0,[]), (1,3,34,0,8,5,32,0,[260]), (4,1,46,0,0,0,0,0,[])]]
/-- MergeLine$Tests.triesDone()I -/
def cd_120 : List (List xI) := [[(0,1,2,1,0,0,0,0,[]), (1,3,34,0,8,8,42,0,[263]), (4,1,46,0,0,0,0,0,[])]]
/-- MergeLine$Tests.kindOf(I)I -/
def cd_121 : List (List xI) := [[(0,1,2,1,0,0,0,0,[]), (1,3,35,0,8,0,14,0,[255]), (4,1,1,1,1,0,0,0,[]), (5,3,40,1,18,2,48,0,[410,411,412]), (8,0,27,0,1,0,0,0,[])],
  [(8,1,46,0,0,0,0,0,[])]]
/-- MergeLine$Tests.subjectOf(I)I -/
def cd_122 : List (List xI) := [[(0,1,2,1,0,0,0,0,[]), (1,3,35,0,8,1,20,0,[256]), (4,1,1,1,1,0,0,0,[]), (5,3,40,1,18,2,48,0,[410,411,412]), (8,0,27,0,1,0,0,0,[])],
  [(8,1,46,0,0,0,0,0,[])]]
/-- MergeLine$Tests.add(IIII)I -/
def cd_123 : List (List xI) := [[(0,1,2,1,0,0,0,0,[]), (1,3,35,0,8,0,14,0,[255]), (4,1,2,1,0,0,0,0,[]), (5,3,34,0,8,5,32,0,[260]), (8,1,1,1,1,0,0,0,[]), (9,3,41,1,19,3,52,0,[374,375,376]), (12,0,27,0,1,0,0,0,[])],
  [(12,1,2,1,0,0,0,0,[]), (13,3,35,0,8,1,20,0,[256]), (16,1,2,1,0,0,0,0,[]), (17,3,34,0,8,5,32,0,[260]), (20,1,1,1,2,0,0,0,[]), (21,3,41,1,19,3,52,0,[374,375,376]), (24,0,27,0,2,0,0,0,[])],
  [(24,1,2,1,0,0,0,0,[]), (25,3,35,0,8,2,23,0,[257]), (28,1,2,1,0,0,0,0,[]), (29,3,34,0,8,5,32,0,[260]), (32,1,1,1,3,0,0,0,[]), (33,3,41,1,19,3,52,0,[374,375,376]), (36,0,27,0,3,0,0,0,[])],
  [(36,1,2,1,0,0,0,0,[]), (37,3,35,0,8,3,26,0,[258]), (40,1,2,1,0,0,0,0,[]), (41,3,34,0,8,5,32,0,[260]), (44,2,1,0,4,0,0,0,[]), (46,3,41,1,19,3,52,0,[374,375,376]), (49,0,27,0,4,0,0,0,[])],
  [(49,1,2,1,0,0,0,0,[]), (50,3,35,0,8,4,29,0,[259]), (53,1,2,1,0,0,0,0,[]), (54,3,34,0,8,5,32,0,[260]), (57,1,0,0,0,0,0,0,[]), (58,3,41,1,19,3,52,0,[374,375,376]), (61,0,27,0,5,0,0,0,[])],
  [(61,1,2,1,0,0,0,0,[]), (62,1,23,0,0,0,0,0,[]), (63,3,34,0,8,5,32,0,[260]), (66,1,0,0,0,0,0,1,[]), (67,1,8,0,0,0,0,0,[]), (68,3,36,0,8,5,32,0,[260]), (71,1,2,1,0,0,0,0,[]), (72,3,34,0,8,5,32,0,[260]), (75,1,0,0,0,0,0,1,[]), (76,1,9,0,0,0,0,0,[]), (77,1,46,0,0,0,0,0,[])]]
/-- MergeLine$Tests.setOdds(II)V -/
def cd_124 : List (List xI) := [[(0,1,2,1,0,0,0,0,[]), (1,3,35,0,8,4,29,0,[259]), (4,1,1,1,1,0,0,0,[]), (5,1,1,1,2,0,0,0,[]), (6,3,41,1,19,3,52,0,[374,375,376]), (9,0,27,0,1,0,0,0,[])],
  [(9,1,47,0,0,0,0,0,[])]]
/-- MergeLine$Tests.setTries(II)V -/
def cd_125 : List (List xI) := [[(0,1,2,1,0,0,0,0,[]), (1,1,1,1,1,0,0,0,[]), (2,3,36,0,8,6,36,0,[261]), (5,1,2,1,0,0,0,0,[]), (6,1,1,1,2,0,0,0,[]), (7,3,36,0,8,7,39,0,[262]), (10,1,47,0,0,0,0,0,[])]]
/-- MergeLine$Tests.passes(ILMergeLine$Book;I)Z -/
def cd_126 : List (List xI) := [[(0,1,2,1,0,0,0,0,[]), (1,1,1,1,1,0,0,0,[]), (2,1,2,1,2,0,0,0,[]), (3,1,1,1,3,0,0,0,[]), (4,3,40,8,127,4,56,0,[793,407,408]), (7,0,27,0,1,0,0,0,[])],
  [(7,2,4,0,4,0,0,0,[]), (9,1,2,1,0,0,0,0,[]), (10,3,35,0,8,4,29,0,[259]), (13,1,1,1,1,0,0,0,[]), (14,3,40,1,18,2,48,0,[410,411,412]), (17,0,27,0,2,0,0,0,[])],
  [(17,2,4,0,5,0,0,0,[]), (19,2,1,0,5,0,0,0,[]), (21,3,29,0,3,1,0,0,[]), (24,1,2,1,0,0,0,0,[]), (25,1,23,0,0,0,0,0,[]), (26,3,34,0,8,8,42,0,[263]), (29,1,0,0,0,0,0,1,[]), (30,1,8,0,0,0,0,0,[]), (31,3,36,0,8,8,42,0,[263]), (34,2,1,0,4,0,0,0,[]), (36,1,46,0,1,0,0,0,[])],
  [(37,1,0,0,0,0,0,0,[]), (38,2,4,0,6,0,0,0,[]), (40,1,0,0,0,0,0,0,[]), (41,2,4,0,7,0,0,0,[]), (43,0,27,0,4,0,0,0,[])],
  [(43,2,1,0,7,0,0,0,[]), (45,1,2,1,0,0,0,0,[]), (46,3,34,0,8,6,36,0,[261]), (49,3,28,0,6,3,0,0,[]), (52,2,1,0,6,0,0,0,[]), (54,1,2,1,0,0,0,0,[]), (55,3,34,0,8,7,39,0,[262]), (58,3,28,0,6,3,0,0,[]), (61,2,1,0,7,0,0,0,[]), (63,2,1,0,6,0,0,0,[]), (65,1,9,0,0,0,0,0,[]), (66,1,2,1,0,0,0,0,[]), (67,3,34,0,8,6,36,0,[261]), (70,1,2,1,0,0,0,0,[]), (71,3,34,0,8,7,39,0,[262]), (74,1,9,0,0,0,0,0,[]), (75,3,28,0,6,4,0,0,[]), (78,1,2,1,0,0,0,0,[]), (79,1,2,1,0,0,0,0,[]), (80,3,34,0,8,9,45,0,[264]), (83,2,0,3,0,0,60,1103515245,[794]), (85,1,10,0,0,0,0,0,[]), (86,3,0,2,0,0,0,12345,[]), (89,1,8,0,0,0,0,0,[]), (90,3,36,0,8,9,45,0,[264]), (93,1,2,1,0,0,0,0,[]), (94,1,23,0,0,0,0,0,[]), (95,3,34,0,8,8,42,0,[263]), (98,1,0,0,0,0,0,1,[]), (99,1,8,0,0,0,0,0,[]), (100,3,36,0,8,8,42,0,[263]), (103,2,1,0,4,0,0,0,[]), (105,3,29,0,5,0,0,0,[]), (108,1,2,1,0,0,0,0,[]), (109,3,34,0,8,9,45,0,[264]), (112,2,0,1,0,0,0,8,[]), (114,1,13,0,0,0,0,0,[]), (115,3,0,2,0,0,0,1000,[]), (118,1,12,0,0,0,0,0,[]), (119,2,1,0,5,0,0,0,[]), (121,3,28,0,5,2,0,0,[]), (124,3,7,0,6,0,0,1,[]), (127,0,27,0,5,0,0,0,[])],
  [(127,3,7,0,7,0,0,1,[]), (130,3,26,0,4,0,0,0,[])],
  [(133,2,1,0,6,0,0,0,[]), (135,1,2,1,0,0,0,0,[]), (136,3,34,0,8,7,39,0,[262]), (139,3,28,0,7,2,0,0,[]), (142,1,0,0,0,0,0,1,[]), (143,3,26,0,8,0,0,0,[])],
  [(146,1,0,0,0,0,0,0,[]), (147,0,27,0,8,0,0,0,[])],
  [(147,1,46,0,1,0,0,0,[])]]
/-- MergeLine$Tests.standsOn(ILMergeLine$Book;I)Z -/
def cd_127 : List (List xI) := [[(0,1,2,1,0,0,0,0,[]), (1,3,35,0,8,1,20,0,[256]), (4,1,1,1,1,0,0,0,[]), (5,3,40,1,18,2,48,0,[410,411,412]), (8,0,27,0,1,0,0,0,[])],
  [(8,2,4,0,4,0,0,0,[]), (10,1,2,1,0,0,0,0,[]), (11,3,35,0,8,2,23,0,[257]), (14,1,1,1,1,0,0,0,[]), (15,3,40,1,18,2,48,0,[410,411,412]), (18,0,27,0,2,0,0,0,[])],
  [(18,2,4,0,5,0,0,0,[]), (20,1,2,1,0,0,0,0,[]), (21,3,35,0,8,3,26,0,[258]), (24,1,1,1,1,0,0,0,[]), (25,3,40,1,18,2,48,0,[410,411,412]), (28,0,27,0,3,0,0,0,[])],
  [(28,2,4,0,6,0,0,0,[]), (30,1,2,1,0,0,0,0,[]), (31,3,35,0,8,0,14,0,[255]), (34,1,1,1,1,0,0,0,[]), (35,3,40,1,18,2,48,0,[410,411,412]), (38,0,27,0,4,0,0,0,[])],
  [(38,30,30,0,0,20,0,0,[5,9,13,15])],
  [(68,2,1,0,5,0,0,0,[]), (70,3,29,0,7,5,0,0,[]), (73,1,2,1,2,0,0,0,[]), (74,1,1,1,3,0,0,0,[]), (75,2,1,0,4,0,0,0,[]), (77,3,42,0,128,3,61,0,[414,415]), (80,0,27,0,6,0,0,0,[])],
  [(80,2,1,0,5,0,0,0,[]), (82,1,12,0,0,0,0,0,[]), (83,2,1,0,6,0,0,0,[]), (85,3,28,0,7,1,0,0,[]), (88,1,0,0,0,0,0,1,[]), (89,3,26,0,8,0,0,0,[])],
  [(92,1,0,0,0,0,0,0,[]), (93,0,27,0,8,0,0,0,[])],
  [(93,1,46,0,1,0,0,0,[])],
  [(94,1,2,1,2,0,0,0,[]), (95,1,1,1,3,0,0,0,[]), (96,2,1,0,4,0,0,0,[]), (98,3,40,0,11,3,65,0,[426,427,428]), (101,0,27,0,10,0,0,0,[])],
  [(101,2,1,0,5,0,0,0,[]), (103,3,28,0,11,2,0,0,[]), (106,1,0,0,0,0,0,1,[]), (107,3,26,0,12,0,0,0,[])],
  [(110,1,0,0,0,0,0,0,[]), (111,0,27,0,12,0,0,0,[])],
  [(111,1,46,0,1,0,0,0,[])],
  [(112,1,2,1,2,0,0,0,[]), (113,1,1,1,3,0,0,0,[]), (114,2,1,0,4,0,0,0,[]), (116,3,42,0,129,3,71,0,[435,436]), (119,0,27,0,14,0,0,0,[])],
  [(119,1,46,0,1,0,0,0,[])],
  [(120,1,2,1,2,0,0,0,[]), (121,1,1,1,3,0,0,0,[]), (122,2,1,0,4,0,0,0,[]), (124,3,40,0,5,3,75,0,[417,336,337]), (127,0,27,0,16,0,0,0,[])],
  [(127,2,1,0,5,0,0,0,[]), (129,3,28,0,18,2,0,0,[]), (132,1,2,1,2,0,0,0,[]), (133,1,1,1,3,0,0,0,[]), (134,2,1,0,4,0,0,0,[]), (136,3,40,0,5,3,75,0,[417,336,337]), (139,0,27,0,17,0,0,0,[])],
  [(139,2,1,0,6,0,0,0,[]), (141,3,28,0,18,4,0,0,[]), (144,1,0,0,0,0,0,1,[]), (145,3,26,0,19,0,0,0,[])],
  [(148,1,0,0,0,0,0,0,[]), (149,0,27,0,19,0,0,0,[])],
  [(149,1,46,0,1,0,0,0,[])],
  [(150,1,2,1,2,0,0,0,[]), (151,1,1,1,3,0,0,0,[]), (152,2,1,0,4,0,0,0,[]), (154,3,42,0,130,3,78,0,[443,444]), (157,0,27,0,21,0,0,0,[])],
  [(157,1,46,0,1,0,0,0,[])]]
/-- MergeLine$Tests.sumOf(LMergeLine$Book;II)I -/
def cd_128 : List (List xI) := [[(0,1,0,0,0,0,0,0,[]), (1,1,4,1,3,0,0,0,[]), (2,1,2,1,0,0,0,0,[]), (3,1,1,1,1,0,0,0,[]), (4,1,1,1,2,0,0,0,[]), (5,3,40,0,5,3,75,0,[417,336,337]), (8,0,27,0,1,0,0,0,[])],
  [(8,2,4,0,4,0,0,0,[]), (10,1,0,0,0,0,0,0,[]), (11,2,4,0,5,0,0,0,[]), (13,0,27,0,2,0,0,0,[])],
  [(13,2,1,0,5,0,0,0,[]), (15,2,1,0,4,0,0,0,[]), (17,3,28,0,5,3,0,0,[]), (20,1,1,1,3,0,0,0,[]), (21,1,2,1,0,0,0,0,[]), (22,1,2,1,0,0,0,0,[]), (23,1,1,1,1,0,0,0,[]), (24,1,1,1,2,0,0,0,[]), (25,2,1,0,5,0,0,0,[]), (27,3,40,0,7,4,81,0,[418,419,420]), (30,0,27,0,3,0,0,0,[])],
  [(30,3,40,0,8,2,85,0,[422,423,424]), (33,0,27,0,4,0,0,0,[])],
  [(33,1,8,0,0,0,0,0,[]), (34,1,4,1,3,0,0,0,[]), (35,3,7,0,5,0,0,1,[]), (38,3,26,0,2,0,0,0,[])],
  [(41,1,1,1,3,0,0,0,[]), (42,1,46,0,0,0,0,0,[])]]
/-- MergeLine$Tests.isAllKnown(LMergeLine$Book;II)Z -/
def cd_129 : List (List xI) := [[(0,1,2,1,0,0,0,0,[]), (1,1,1,1,1,0,0,0,[]), (2,1,1,1,2,0,0,0,[]), (3,3,40,0,5,3,75,0,[417,336,337]), (6,0,27,0,1,0,0,0,[])],
  [(6,1,4,1,3,0,0,0,[]), (7,1,0,0,0,0,0,0,[]), (8,2,4,0,4,0,0,0,[]), (10,0,27,0,2,0,0,0,[])],
  [(10,2,1,0,4,0,0,0,[]), (12,1,1,1,3,0,0,0,[]), (13,3,28,0,7,3,0,0,[]), (16,1,2,1,0,0,0,0,[]), (17,1,2,1,0,0,0,0,[]), (18,1,1,1,1,0,0,0,[]), (19,1,1,1,2,0,0,0,[]), (20,2,1,0,4,0,0,0,[]), (22,3,40,0,7,4,81,0,[418,419,420]), (25,0,27,0,3,0,0,0,[])],
  [(25,3,40,0,10,2,88,0,[438,439,440]), (28,0,27,0,4,0,0,0,[])],
  [(28,2,4,0,5,0,0,0,[]), (30,2,1,0,5,0,0,0,[]), (32,1,0,0,0,0,0,(-1),[]), (33,3,28,0,6,0,0,0,[]), (36,1,2,1,0,0,0,0,[]), (37,1,1,1,1,0,0,0,[]), (38,2,1,0,5,0,0,0,[]), (40,3,40,0,11,3,65,0,[426,427,428]), (43,0,27,0,5,0,0,0,[])],
  [(43,3,29,0,6,1,0,0,[]), (46,1,0,0,0,0,0,0,[]), (47,1,46,0,1,0,0,0,[])],
  [(48,3,7,0,4,0,0,1,[]), (51,3,26,0,2,0,0,0,[])],
  [(54,1,0,0,0,0,0,1,[]), (55,1,46,0,1,0,0,0,[])]]
/-- MergeLine$Tests.isRising(LMergeLine$Book;II)Z -/
def cd_130 : List (List xI) := [[(0,1,2,1,0,0,0,0,[]), (1,1,1,1,1,0,0,0,[]), (2,1,1,1,2,0,0,0,[]), (3,3,40,0,5,3,75,0,[417,336,337]), (6,0,27,0,1,0,0,0,[])],
  [(6,1,4,1,3,0,0,0,[]), (7,1,0,0,0,0,0,1,[]), (8,2,4,0,4,0,0,0,[]), (10,0,27,0,2,0,0,0,[])],
  [(10,2,1,0,4,0,0,0,[]), (12,1,1,1,3,0,0,0,[]), (13,3,28,0,8,3,0,0,[]), (16,1,2,1,0,0,0,0,[]), (17,1,2,1,0,0,0,0,[]), (18,1,1,1,1,0,0,0,[]), (19,1,1,1,2,0,0,0,[]), (20,2,1,0,4,0,0,0,[]), (22,1,0,0,0,0,0,1,[]), (23,1,9,0,0,0,0,0,[]), (24,3,40,0,7,4,81,0,[418,419,420]), (27,0,27,0,3,0,0,0,[])],
  [(27,3,40,0,8,2,85,0,[422,423,424]), (30,0,27,0,4,0,0,0,[])],
  [(30,2,4,0,5,0,0,0,[]), (32,1,2,1,0,0,0,0,[]), (33,1,2,1,0,0,0,0,[]), (34,1,1,1,1,0,0,0,[]), (35,1,1,1,2,0,0,0,[]), (36,2,1,0,4,0,0,0,[]), (38,3,40,0,7,4,81,0,[418,419,420]), (41,0,27,0,5,0,0,0,[])],
  [(41,3,40,0,8,2,85,0,[422,423,424]), (44,0,27,0,6,0,0,0,[])],
  [(44,2,1,0,5,0,0,0,[]), (46,3,28,0,7,3,0,0,[]), (49,1,0,0,0,0,0,0,[]), (50,1,46,0,1,0,0,0,[])],
  [(51,3,7,0,4,0,0,1,[]), (54,3,26,0,2,0,0,0,[])],
  [(57,1,0,0,0,0,0,1,[]), (58,1,46,0,1,0,0,0,[])]]
/-- MergeLine$Tests.takeOver(LMergeLine$Tests;)V -/
def cd_131 : List (List xI) := [[(0,1,2,1,0,0,0,0,[]), (1,3,35,0,8,0,14,0,[255]), (4,1,2,1,1,0,0,0,[]), (5,3,35,0,8,0,14,0,[255]), (8,3,41,1,21,2,91,0,[936,937,938]), (11,0,27,0,1,0,0,0,[])],
  [(11,1,2,1,0,0,0,0,[]), (12,3,35,0,8,1,20,0,[256]), (15,1,2,1,1,0,0,0,[]), (16,3,35,0,8,1,20,0,[256]), (19,3,41,1,21,2,91,0,[936,937,938]), (22,0,27,0,2,0,0,0,[])],
  [(22,1,2,1,0,0,0,0,[]), (23,3,35,0,8,2,23,0,[257]), (26,1,2,1,1,0,0,0,[]), (27,3,35,0,8,2,23,0,[257]), (30,3,41,1,21,2,91,0,[936,937,938]), (33,0,27,0,3,0,0,0,[])],
  [(33,1,2,1,0,0,0,0,[]), (34,3,35,0,8,3,26,0,[258]), (37,1,2,1,1,0,0,0,[]), (38,3,35,0,8,3,26,0,[258]), (41,3,41,1,21,2,91,0,[936,937,938]), (44,0,27,0,4,0,0,0,[])],
  [(44,1,2,1,0,0,0,0,[]), (45,3,35,0,8,4,29,0,[259]), (48,1,2,1,1,0,0,0,[]), (49,3,35,0,8,4,29,0,[259]), (52,3,41,1,21,2,91,0,[936,937,938]), (55,0,27,0,5,0,0,0,[])],
  [(55,1,2,1,0,0,0,0,[]), (56,1,2,1,1,0,0,0,[]), (57,3,34,0,8,5,32,0,[260]), (60,3,36,0,8,5,32,0,[260]), (63,1,2,1,0,0,0,0,[]), (64,1,2,1,1,0,0,0,[]), (65,3,34,0,8,6,36,0,[261]), (68,3,36,0,8,6,36,0,[261]), (71,1,2,1,0,0,0,0,[]), (72,1,2,1,1,0,0,0,[]), (73,3,34,0,8,7,39,0,[262]), (76,3,36,0,8,7,39,0,[262]), (79,1,2,1,0,0,0,0,[]), (80,1,2,1,1,0,0,0,[]), (81,3,34,0,8,8,42,0,[263]), (84,3,36,0,8,8,42,0,[263]), (87,1,2,1,0,0,0,0,[]), (88,1,2,1,1,0,0,0,[]), (89,3,34,0,8,9,45,0,[264]), (92,3,36,0,8,9,45,0,[264]), (95,1,47,0,0,0,0,0,[])]]
/-- MergeLine.<init>(I)V -/
def cd_132 : List (List xI) := [[(0,1,2,1,0,0,0,0,[]), (1,3,43,0,0,0,3,0,[72]), (4,1,2,1,0,0,0,0,[]), (5,3,38,0,4,0,9,0,[75]), (8,1,23,0,0,0,0,0,[]), (9,1,1,1,1,0,0,0,[]), (10,3,48,0,61,2,11,0,[77,78]), (13,0,27,0,1,0,0,0,[])],
  [(13,3,37,0,9,0,14,0,[314]), (16,1,2,1,0,0,0,0,[]), (17,3,38,0,4,0,9,0,[75]), (20,1,23,0,0,0,0,0,[]), (21,1,1,1,1,0,0,0,[]), (22,3,48,0,61,2,11,0,[77,78]), (25,0,27,0,2,0,0,0,[])],
  [(25,3,37,0,9,1,18,0,[315]), (28,1,2,1,0,0,0,0,[]), (29,1,0,0,0,0,0,0,[]), (30,3,36,1,9,2,21,0,[316]), (33,1,47,0,0,0,0,0,[])]]
/-- MergeLine.line(II)I -/
def cd_133 : List (List xI) := [[(0,1,1,1,1,0,0,0,[]), (1,2,0,1,0,0,0,8,[]), (3,3,42,0,159,2,25,0,[328,329]), (6,0,27,0,1,0,0,0,[])],
  [(6,3,29,0,2,0,0,0,[]), (9,1,1,1,2,0,0,0,[]), (10,3,29,0,2,2,0,0,[]), (13,1,1,1,2,0,0,0,[]), (14,3,0,2,0,0,0,9999,[]), (17,3,28,0,3,5,0,0,[]), (20,0,27,0,2,0,0,0,[])],
  [(20,2,0,1,0,0,0,(-2),[]), (22,1,46,0,0,0,0,0,[])],
  [(23,1,2,1,0,0,0,0,[]), (24,3,35,0,9,0,14,0,[314]), (27,3,35,1,4,2,29,0,[291]), (30,3,40,2,23,1,33,0,[331,332,333]), (33,0,27,0,4,0,0,0,[])],
  [(33,3,29,0,5,5,0,0,[]), (36,2,0,1,0,0,0,(-3),[]), (38,1,46,0,0,0,0,0,[])],
  [(39,1,2,1,0,0,0,0,[]), (40,3,35,0,9,0,14,0,[314]), (43,3,35,1,4,0,39,0,[287]), (46,1,0,0,0,0,0,0,[]), (47,1,1,1,1,0,0,0,[]), (48,3,40,0,5,3,43,0,[335,336,337]), (51,0,27,0,6,0,0,0,[])],
  [(51,2,0,1,0,0,0,24,[]), (53,3,28,0,7,2,0,0,[]), (56,2,0,1,0,0,0,(-4),[]), (58,1,46,0,0,0,0,0,[])],
  [(59,1,2,1,0,0,0,0,[]), (60,3,35,0,9,0,14,0,[314]), (63,3,35,1,4,0,39,0,[287]), (66,1,1,1,2,0,0,0,[]), (67,3,40,0,3,2,49,0,[339,340,341]), (70,0,27,0,8,0,0,0,[])],
  [(70,1,4,1,3,0,0,0,[]), (71,1,2,1,0,0,0,0,[]), (72,3,35,0,9,0,14,0,[314]), (75,3,35,1,4,0,39,0,[287]), (78,1,1,1,1,0,0,0,[]), (79,1,1,1,3,0,0,0,[]), (80,3,41,0,4,3,53,0,[343,344,345]), (83,0,27,0,9,0,0,0,[])],
  [(83,1,1,1,3,0,0,0,[]), (84,1,46,0,0,0,0,0,[])]]
/-- MergeLine.test(IIII)I -/
def cd_134 : List (List xI) := [[(0,1,1,1,1,0,0,0,[]), (1,1,1,1,2,0,0,0,[]), (2,1,1,1,3,0,0,0,[]), (3,2,1,0,4,0,0,0,[]), (5,3,42,0,163,4,57,0,[363,364]), (8,0,27,0,1,0,0,0,[])],
  [(8,3,29,0,2,1,0,0,[]), (11,2,0,1,0,0,0,(-2),[]), (13,1,46,0,0,0,0,0,[])],
  [(14,1,2,1,0,0,0,0,[]), (15,3,35,0,9,0,14,0,[314]), (18,3,35,1,4,1,61,0,[289]), (21,3,40,8,119,1,65,0,[366,367,368]), (24,0,27,0,3,0,0,0,[])],
  [(24,2,0,1,0,0,0,24,[]), (26,3,28,0,4,2,0,0,[]), (29,2,0,1,0,0,0,(-4),[]), (31,1,46,0,0,0,0,0,[])],
  [(32,1,2,1,0,0,0,0,[]), (33,3,35,0,9,0,14,0,[314]), (36,3,35,1,4,1,61,0,[289]), (39,1,1,1,1,0,0,0,[]), (40,1,1,1,2,0,0,0,[]), (41,1,1,1,3,0,0,0,[]), (42,2,1,0,4,0,0,0,[]), (44,3,40,8,123,5,68,0,[370,371,372]), (47,0,27,0,5,0,0,0,[])],
  [(47,1,46,0,0,0,0,0,[])]]
/-- MergeLine.odds(II)I -/
def cd_135 : List (List xI) := [[(0,1,1,1,1,0,0,0,[]), (1,1,2,1,0,0,0,0,[]), (2,3,35,0,9,0,14,0,[314]), (5,3,35,1,4,1,61,0,[289]), (8,3,40,8,119,1,65,0,[366,367,368]), (11,0,27,0,1,0,0,0,[])],
  [(11,3,42,0,159,2,25,0,[328,329]), (14,0,27,0,2,0,0,0,[])],
  [(14,3,29,0,3,0,0,0,[]), (17,1,1,1,2,0,0,0,[]), (18,3,29,0,3,2,0,0,[]), (21,1,1,1,2,0,0,0,[]), (22,3,0,2,0,0,0,999,[]), (25,3,28,0,4,5,0,0,[]), (28,0,27,0,3,0,0,0,[])],
  [(28,2,0,1,0,0,0,(-2),[]), (30,1,46,0,0,0,0,0,[])],
  [(31,1,2,1,0,0,0,0,[]), (32,3,35,0,9,0,14,0,[314]), (35,3,35,1,4,1,61,0,[289]), (38,1,1,1,1,0,0,0,[]), (39,1,1,1,2,0,0,0,[]), (40,3,41,8,124,3,72,0,[382,383,384]), (43,0,27,0,5,0,0,0,[])],
  [(43,1,0,0,0,0,0,1,[]), (44,1,46,0,0,0,0,0,[])]]
/-- MergeLine.tries(II)I -/
def cd_136 : List (List xI) := [[(0,1,1,1,1,0,0,0,[]), (1,1,0,0,0,0,0,1,[]), (2,3,28,0,1,2,0,0,[]), (5,1,1,1,1,0,0,0,[]), (6,2,0,1,0,0,0,9,[]), (8,3,28,0,1,4,0,0,[]), (11,1,1,1,2,0,0,0,[]), (12,1,0,0,0,0,0,1,[]), (13,3,28,0,1,2,0,0,[]), (16,1,1,1,2,0,0,0,[]), (17,1,1,1,1,0,0,0,[]), (18,3,28,0,2,5,0,0,[]), (21,0,27,0,1,0,0,0,[])],
  [(21,2,0,1,0,0,0,(-2),[]), (23,1,46,0,0,0,0,0,[])],
  [(24,1,2,1,0,0,0,0,[]), (25,3,35,0,9,0,14,0,[314]), (28,3,35,1,4,1,61,0,[289]), (31,1,1,1,1,0,0,0,[]), (32,1,1,1,2,0,0,0,[]), (33,3,41,8,125,3,75,0,[390,391,392]), (36,0,27,0,3,0,0,0,[])],
  [(36,1,0,0,0,0,0,1,[]), (37,1,46,0,0,0,0,0,[])]]
/-- MergeLine.holds(II)I -/
def cd_137 : List (List xI) := [[(0,1,1,1,1,0,0,0,[]), (1,1,2,1,0,0,0,0,[]), (2,3,35,0,9,0,14,0,[314]), (5,3,35,1,4,1,61,0,[289]), (8,3,40,8,119,1,65,0,[366,367,368]), (11,0,27,0,1,0,0,0,[])],
  [(11,3,42,0,159,2,25,0,[328,329]), (14,0,27,0,2,0,0,0,[])],
  [(14,3,29,0,4,0,0,0,[]), (17,1,2,1,0,0,0,0,[]), (18,1,1,1,2,0,0,0,[]), (19,3,40,9,162,2,78,0,[398,400,0]), (22,0,27,0,3,0,0,0,[])],
  [(22,3,29,0,5,1,0,0,[]), (25,0,27,0,4,0,0,0,[])],
  [(25,2,0,1,0,0,0,(-2),[]), (27,1,46,0,0,0,0,0,[])],
  [(28,1,2,1,0,0,0,0,[]), (29,3,35,0,9,0,14,0,[314]), (32,3,35,1,4,1,61,0,[289]), (35,1,1,1,1,0,0,0,[]), (36,1,2,1,0,0,0,0,[]), (37,3,35,0,9,0,14,0,[314]), (40,3,35,1,4,0,39,0,[287]), (43,1,1,1,2,0,0,0,[]), (44,3,40,8,127,4,82,0,[406,407,408]), (47,0,27,0,6,0,0,0,[])],
  [(47,3,42,0,160,1,86,0,[446,447]), (50,0,27,0,7,0,0,0,[])],
  [(50,1,46,0,0,0,0,0,[])]]
/-- MergeLine.change(I)I -/
def cd_138 : List (List xI) := [[(0,1,1,1,1,0,0,0,[]), (1,3,29,0,1,2,0,0,[]), (4,1,1,1,1,0,0,0,[]), (5,1,0,0,0,0,0,3,[]), (6,3,28,0,2,5,0,0,[]), (9,0,27,0,1,0,0,0,[])],
  [(9,2,0,1,0,0,0,(-2),[]), (11,1,46,0,0,0,0,0,[])],
  [(12,1,2,1,0,0,0,0,[]), (13,3,35,0,9,0,14,0,[314]), (16,3,35,1,4,2,29,0,[291]), (19,3,40,2,23,1,33,0,[331,332,333]), (22,0,27,0,3,0,0,0,[])],
  [(22,2,0,1,0,0,0,60,[]), (24,3,28,0,4,2,0,0,[]), (27,2,0,1,0,0,0,(-4),[]), (29,1,46,0,0,0,0,0,[])],
  [(30,1,2,1,0,0,0,0,[]), (31,3,35,0,9,0,14,0,[314]), (34,3,35,1,4,2,29,0,[291]), (37,1,1,1,1,0,0,0,[]), (38,1,2,1,0,0,0,0,[]), (39,3,35,0,9,0,14,0,[314]), (42,3,35,1,4,0,39,0,[287]), (45,3,40,0,1,1,90,0,[402,403,404]), (48,0,27,0,5,0,0,0,[])],
  [(48,3,40,2,24,3,93,0,[453,454,455]), (51,0,27,0,6,0,0,0,[])],
  [(51,1,25,0,0,0,0,0,[]), (52,1,2,1,0,0,0,0,[]), (53,3,35,0,9,0,14,0,[314]), (56,3,35,1,4,2,29,0,[291]), (59,3,40,2,25,1,96,0,[458,459,460]), (62,0,27,0,7,0,0,0,[])],
  [(62,1,46,0,0,0,0,0,[])]]
/-- MergeLine.edit(IIIIII)I -/
def cd_139 : List (List xI) := [[(0,1,2,1,0,0,0,0,[]), (1,1,1,1,1,0,0,0,[]), (2,3,40,9,161,2,99,0,[466,468,1]), (5,0,27,0,1,0,0,0,[])],
  [(5,3,29,0,3,0,0,0,[]), (8,1,1,1,2,0,0,0,[]), (9,2,0,1,0,0,0,8,[]), (11,3,42,0,159,2,25,0,[328,329]), (14,0,27,0,2,0,0,0,[])],
  [(14,3,29,0,4,1,0,0,[]), (17,0,27,0,3,0,0,0,[])],
  [(17,2,0,1,0,0,0,(-2),[]), (19,1,46,0,0,0,0,0,[])],
  [(20,2,1,0,4,0,0,0,[]), (22,2,0,1,0,0,0,7,[]), (24,3,42,0,159,2,25,0,[328,329]), (27,0,27,0,5,0,0,0,[])],
  [(27,3,29,0,7,0,0,0,[]), (30,2,1,0,5,0,0,0,[]), (32,1,0,0,0,0,0,5,[]), (33,3,42,0,159,2,25,0,[328,329]), (36,0,27,0,6,0,0,0,[])],
  [(36,3,29,0,7,0,0,0,[]), (39,2,1,0,4,0,0,0,[]), (41,2,1,0,5,0,0,0,[]), (43,1,8,0,0,0,0,0,[]), (44,3,29,0,8,1,0,0,[]), (47,0,27,0,7,0,0,0,[])],
  [(47,2,0,1,0,0,0,(-2),[]), (49,1,46,0,0,0,0,0,[])],
  [(50,1,2,1,0,0,0,0,[]), (51,3,35,0,9,0,14,0,[314]), (54,3,35,1,4,0,39,0,[287]), (57,1,2,1,0,0,0,0,[]), (58,3,35,0,9,0,14,0,[314]), (61,3,35,1,4,0,39,0,[287]), (64,3,40,0,1,1,90,0,[402,403,404]), (67,0,27,0,9,0,0,0,[])],
  [(67,1,1,1,2,0,0,0,[]), (68,3,40,0,5,3,43,0,[335,336,337]), (71,0,27,0,10,0,0,0,[])],
  [(71,2,4,0,7,0,0,0,[]), (73,1,1,1,3,0,0,0,[]), (74,3,29,0,11,2,0,0,[]), (77,1,1,1,3,0,0,0,[]), (78,2,1,0,7,0,0,0,[]), (80,2,1,0,4,0,0,0,[]), (82,1,9,0,0,0,0,0,[]), (83,3,28,0,11,4,0,0,[]), (86,2,1,0,6,0,0,0,[]), (88,3,29,0,11,2,0,0,[]), (91,2,1,0,6,0,0,0,[]), (93,3,0,2,0,0,0,9999,[]), (96,2,1,0,5,0,0,0,[]), (98,1,9,0,0,0,0,0,[]), (99,3,28,0,12,5,0,0,[]), (102,0,27,0,11,0,0,0,[])],
  [(102,2,0,1,0,0,0,(-2),[]), (104,1,46,0,0,0,0,0,[])],
  [(105,1,2,1,0,0,0,0,[]), (106,3,35,0,9,0,14,0,[314]), (109,3,35,1,4,2,29,0,[291]), (112,1,1,1,1,0,0,0,[]), (113,1,2,1,0,0,0,0,[]), (114,3,35,0,9,0,14,0,[314]), (117,3,35,1,4,0,39,0,[287]), (120,3,40,0,1,1,90,0,[402,403,404]), (123,0,27,0,13,0,0,0,[])],
  [(123,3,40,2,38,3,102,0,[470,471,472]), (126,0,27,0,14,0,0,0,[])],
  [(126,3,29,0,15,1,0,0,[]), (129,2,0,1,0,0,0,(-3),[]), (131,1,46,0,0,0,0,0,[])],
  [(132,1,2,1,0,0,0,0,[]), (133,3,35,0,9,0,14,0,[314]), (136,3,35,1,4,2,29,0,[291]), (139,1,1,1,1,0,0,0,[]), (140,1,1,1,2,0,0,0,[]), (141,3,40,2,39,3,105,0,[475,476,477]), (144,0,27,0,16,0,0,0,[])],
  [(144,3,29,0,17,0,0,0,[]), (147,2,0,1,0,0,0,(-3),[]), (149,1,46,0,0,0,0,0,[])],
  [(150,1,2,1,0,0,0,0,[]), (151,3,35,0,9,0,14,0,[314]), (154,3,35,1,4,2,29,0,[291]), (157,1,1,1,1,0,0,0,[]), (158,3,40,2,33,2,108,0,[488,480,481]), (161,0,27,0,18,0,0,0,[])],
  [(161,1,0,0,0,0,0,4,[]), (162,3,28,0,19,3,0,0,[]), (165,2,1,0,7,0,0,0,[]), (167,2,1,0,4,0,0,0,[]), (169,1,9,0,0,0,0,0,[]), (170,2,1,0,5,0,0,0,[]), (172,1,8,0,0,0,0,0,[]), (173,2,0,1,0,0,0,24,[]), (175,3,28,0,20,5,0,0,[]), (178,0,27,0,19,0,0,0,[])],
  [(178,2,0,1,0,0,0,(-4),[]), (180,1,46,0,0,0,0,0,[])],
  [(181,1,2,1,0,0,0,0,[]), (182,3,35,0,9,0,14,0,[314]), (185,3,35,1,4,2,29,0,[291]), (188,1,1,1,1,0,0,0,[]), (189,1,1,1,2,0,0,0,[]), (190,2,1,0,4,0,0,0,[]), (192,2,1,0,5,0,0,0,[]), (194,3,40,2,40,5,111,0,[489,490,491]), (197,0,27,0,21,0,0,0,[])],
  [(197,2,4,0,8,0,0,0,[]), (199,1,2,1,0,0,0,0,[]), (200,3,35,0,9,0,14,0,[314]), (203,3,35,1,4,2,29,0,[291]), (206,2,1,0,8,0,0,0,[]), (208,1,2,1,0,0,0,0,[]), (209,3,35,0,9,0,14,0,[314]), (212,3,35,1,4,0,39,0,[287]), (215,1,1,1,3,0,0,0,[]), (216,3,41,2,41,4,114,0,[498,499,500]), (219,0,27,0,22,0,0,0,[])],
  [(219,1,2,1,0,0,0,0,[]), (220,3,35,0,9,0,14,0,[314]), (223,3,35,1,4,2,29,0,[291]), (226,2,1,0,8,0,0,0,[]), (228,1,2,1,0,0,0,0,[]), (229,3,35,0,9,0,14,0,[314]), (232,3,35,1,4,0,39,0,[287]), (235,2,1,0,6,0,0,0,[]), (237,3,41,2,42,4,118,0,[508,509,510]), (240,0,27,0,23,0,0,0,[])],
  [(240,1,2,1,0,0,0,0,[]), (241,3,35,0,9,0,14,0,[314]), (244,3,35,1,4,2,29,0,[291]), (247,1,1,1,1,0,0,0,[]), (248,3,40,2,33,2,108,0,[488,480,481]), (251,0,27,0,24,0,0,0,[])],
  [(251,1,46,0,0,0,0,0,[])]]
/-- MergeLine.revert(I)I -/
def cd_140 : List (List xI) := [[(0,1,2,1,0,0,0,0,[]), (1,1,1,1,1,0,0,0,[]), (2,3,40,9,161,2,99,0,[466,468,1]), (5,0,27,0,1,0,0,0,[])],
  [(5,3,29,0,2,1,0,0,[]), (8,2,0,1,0,0,0,(-2),[]), (10,1,46,0,0,0,0,0,[])],
  [(11,1,2,1,0,0,0,0,[]), (12,3,35,0,9,0,14,0,[314]), (15,3,35,1,4,2,29,0,[291]), (18,1,1,1,1,0,0,0,[]), (19,3,40,2,27,2,121,0,[521,522,523]), (22,0,27,0,3,0,0,0,[])],
  [(22,1,0,0,0,0,0,4,[]), (23,3,28,0,4,0,0,0,[]), (26,2,0,1,0,0,0,(-3),[]), (28,1,46,0,0,0,0,0,[])],
  [(29,1,2,1,0,0,0,0,[]), (30,3,35,0,9,0,14,0,[314]), (33,3,35,1,4,2,29,0,[291]), (36,1,0,0,0,0,0,4,[]), (37,1,2,1,0,0,0,0,[]), (38,3,35,0,9,0,14,0,[314]), (41,3,35,1,4,0,39,0,[287]), (44,3,40,0,1,1,90,0,[402,403,404]), (47,0,27,0,5,0,0,0,[])],
  [(47,3,40,2,24,3,93,0,[453,454,455]), (50,0,27,0,6,0,0,0,[])],
  [(50,1,4,1,2,0,0,0,[]), (51,1,2,1,0,0,0,0,[]), (52,3,35,0,9,0,14,0,[314]), (55,3,35,1,4,2,29,0,[291]), (58,1,1,1,1,0,0,0,[]), (59,1,1,1,2,0,0,0,[]), (60,3,41,2,43,3,124,0,[525,526,527]), (63,0,27,0,7,0,0,0,[])],
  [(63,1,2,1,0,0,0,0,[]), (64,3,35,0,9,0,14,0,[314]), (67,3,35,1,4,2,29,0,[291]), (70,1,1,1,2,0,0,0,[]), (71,1,2,1,0,0,0,0,[]), (72,3,35,0,9,0,14,0,[314]), (75,3,35,1,4,0,39,0,[287]), (78,1,2,1,0,0,0,0,[]), (79,3,35,0,9,0,14,0,[314]), (82,3,35,1,4,0,39,0,[287]), (85,3,40,0,1,1,90,0,[402,403,404]), (88,0,27,0,8,0,0,0,[])],
  [(88,3,40,2,46,4,127,0,[533,534,535]), (91,0,27,0,9,0,0,0,[])],
  [(91,3,29,0,10,1,0,0,[]), (94,2,0,1,0,0,0,(-3),[]), (96,1,46,0,0,0,0,0,[])],
  [(97,1,2,1,0,0,0,0,[]), (98,3,35,0,9,0,14,0,[314]), (101,3,35,1,4,2,29,0,[291]), (104,3,40,2,23,1,33,0,[331,332,333]), (107,0,27,0,11,0,0,0,[])],
  [(107,2,0,1,0,0,0,60,[]), (109,3,28,0,12,2,0,0,[]), (112,2,0,1,0,0,0,(-4),[]), (114,1,46,0,0,0,0,0,[])],
  [(115,1,2,1,0,0,0,0,[]), (116,3,35,0,9,0,14,0,[314]), (119,3,35,1,4,2,29,0,[291]), (122,3,40,2,25,1,96,0,[458,459,460]), (125,0,27,0,13,0,0,0,[])],
  [(125,1,46,0,0,0,0,0,[])]]
/-- MergeLine.pair(II)I -/
def cd_141 : List (List xI) := [[(0,1,2,1,0,0,0,0,[]), (1,1,1,1,1,0,0,0,[]), (2,3,40,9,161,2,99,0,[466,468,1]), (5,0,27,0,1,0,0,0,[])],
  [(5,3,29,0,3,0,0,0,[]), (8,1,2,1,0,0,0,0,[]), (9,1,1,1,2,0,0,0,[]), (10,3,40,9,161,2,99,0,[466,468,1]), (13,0,27,0,2,0,0,0,[])],
  [(13,3,29,0,3,0,0,0,[]), (16,1,1,1,1,0,0,0,[]), (17,1,1,1,2,0,0,0,[]), (18,3,28,0,4,1,0,0,[]), (21,0,27,0,3,0,0,0,[])],
  [(21,2,0,1,0,0,0,(-2),[]), (23,1,46,0,0,0,0,0,[])],
  [(24,1,2,1,0,0,0,0,[]), (25,3,35,0,9,0,14,0,[314]), (28,3,35,1,4,2,29,0,[291]), (31,1,1,1,1,0,0,0,[]), (32,3,40,2,35,2,130,0,[546,547,548]), (35,0,27,0,5,0,0,0,[])],
  [(35,3,29,0,7,0,0,0,[]), (38,1,2,1,0,0,0,0,[]), (39,3,35,0,9,0,14,0,[314]), (42,3,35,1,4,2,29,0,[291]), (45,1,1,1,2,0,0,0,[]), (46,3,40,2,35,2,130,0,[546,547,548]), (49,0,27,0,6,0,0,0,[])],
  [(49,3,29,0,8,1,0,0,[]), (52,0,27,0,7,0,0,0,[])],
  [(52,2,0,1,0,0,0,(-3),[]), (54,1,46,0,0,0,0,0,[])],
  [(55,1,2,1,0,0,0,0,[]), (56,3,35,0,9,0,14,0,[314]), (59,3,35,1,4,2,29,0,[291]), (62,1,1,1,1,0,0,0,[]), (63,1,1,1,2,0,0,0,[]), (64,3,41,2,36,3,133,0,[550,551,552]), (67,0,27,0,9,0,0,0,[])],
  [(67,1,0,0,0,0,0,1,[]), (68,1,46,0,0,0,0,0,[])]]
/-- MergeLine.fits(I)I -/
def cd_142 : List (List xI) := [[(0,1,2,1,0,0,0,0,[]), (1,1,1,1,1,0,0,0,[]), (2,3,40,9,161,2,99,0,[466,468,1]), (5,0,27,0,1,0,0,0,[])],
  [(5,3,29,0,2,1,0,0,[]), (8,2,0,1,0,0,0,(-2),[]), (10,1,46,0,0,0,0,0,[])],
  [(11,1,2,1,0,0,0,0,[]), (12,3,35,0,9,0,14,0,[314]), (15,3,35,1,4,2,29,0,[291]), (18,1,1,1,1,0,0,0,[]), (19,1,2,1,0,0,0,0,[]), (20,3,35,0,9,0,14,0,[314]), (23,3,35,1,4,0,39,0,[287]), (26,1,2,1,0,0,0,0,[]), (27,3,35,0,9,0,14,0,[314]), (30,3,35,1,4,0,39,0,[287]), (33,3,40,0,1,1,90,0,[402,403,404]), (36,0,27,0,3,0,0,0,[])],
  [(36,3,40,2,46,4,127,0,[533,534,535]), (39,0,27,0,4,0,0,0,[])],
  [(39,3,42,0,160,1,86,0,[446,447]), (42,0,27,0,5,0,0,0,[])],
  [(42,1,46,0,0,0,0,0,[])]]
/-- MergeLine.touches(II)I -/
def cd_143 : List (List xI) := [[(0,1,2,1,0,0,0,0,[]), (1,1,1,1,1,0,0,0,[]), (2,3,40,9,161,2,99,0,[466,468,1]), (5,0,27,0,1,0,0,0,[])],
  [(5,3,29,0,4,0,0,0,[]), (8,1,1,1,2,0,0,0,[]), (9,1,2,1,0,0,0,0,[]), (10,3,35,0,9,0,14,0,[314]), (13,3,35,1,4,1,61,0,[289]), (16,3,40,8,119,1,65,0,[366,367,368]), (19,0,27,0,2,0,0,0,[])],
  [(19,3,42,0,159,2,25,0,[328,329]), (22,0,27,0,3,0,0,0,[])],
  [(22,3,29,0,5,1,0,0,[]), (25,0,27,0,4,0,0,0,[])],
  [(25,2,0,1,0,0,0,(-2),[]), (27,1,46,0,0,0,0,0,[])],
  [(28,1,2,1,0,0,0,0,[]), (29,3,35,0,9,0,14,0,[314]), (32,3,35,1,4,1,61,0,[289]), (35,1,1,1,2,0,0,0,[]), (36,3,40,8,122,2,136,0,[562,563,564]), (39,0,27,0,6,0,0,0,[])],
  [(39,1,4,1,3,0,0,0,[]), (40,1,2,1,0,0,0,0,[]), (41,3,35,0,9,0,14,0,[314]), (44,3,35,1,4,2,29,0,[291]), (47,1,1,1,1,0,0,0,[]), (48,1,2,1,0,0,0,0,[]), (49,3,35,0,9,0,14,0,[314]), (52,3,35,1,4,1,61,0,[289]), (55,1,1,1,2,0,0,0,[]), (56,3,40,8,121,2,139,0,[566,567,568]), (59,0,27,0,7,0,0,0,[])],
  [(59,1,1,1,3,0,0,0,[]), (60,1,2,1,0,0,0,0,[]), (61,3,35,0,9,0,14,0,[314]), (64,3,35,1,4,0,39,0,[287]), (67,3,40,2,48,5,142,0,[570,571,572]), (70,0,27,0,8,0,0,0,[])],
  [(70,3,42,0,160,1,86,0,[446,447]), (73,0,27,0,9,0,0,0,[])],
  [(73,1,46,0,0,0,0,0,[])]]
/-- MergeLine.queue(I)I -/
def cd_144 : List (List xI) := [[(0,1,2,1,0,0,0,0,[]), (1,1,1,1,1,0,0,0,[]), (2,3,40,9,161,2,99,0,[466,468,1]), (5,0,27,0,1,0,0,0,[])],
  [(5,3,29,0,2,1,0,0,[]), (8,2,0,1,0,0,0,(-2),[]), (10,1,46,0,0,0,0,0,[])],
  [(11,1,2,1,0,0,0,0,[]), (12,3,35,0,9,0,14,0,[314]), (15,3,35,1,4,2,29,0,[291]), (18,1,1,1,1,0,0,0,[]), (19,3,40,2,27,2,121,0,[521,522,523]), (22,0,27,0,3,0,0,0,[])],
  [(22,3,29,0,5,1,0,0,[]), (25,1,2,1,0,0,0,0,[]), (26,3,35,0,9,0,14,0,[314]), (29,3,35,1,4,2,29,0,[291]), (32,1,1,1,1,0,0,0,[]), (33,3,40,2,33,2,108,0,[488,480,481]), (36,0,27,0,4,0,0,0,[])],
  [(36,3,29,0,6,1,0,0,[]), (39,0,27,0,5,0,0,0,[])],
  [(39,2,0,1,0,0,0,(-3),[]), (41,1,46,0,0,0,0,0,[])],
  [(42,1,2,1,0,0,0,0,[]), (43,3,35,0,9,0,14,0,[314]), (46,3,35,1,4,2,29,0,[291]), (49,1,1,1,1,0,0,0,[]), (50,1,0,0,0,0,0,1,[]), (51,3,41,2,28,3,146,0,[586,587,588]), (54,0,27,0,7,0,0,0,[])],
  [(54,1,2,1,0,0,0,0,[]), (55,3,35,0,9,0,14,0,[314]), (58,3,35,1,4,3,149,0,[293]), (61,1,1,1,1,0,0,0,[]), (62,3,40,5,83,2,153,0,[590,591,592]), (65,0,27,0,8,0,0,0,[])],
  [(65,1,46,0,0,0,0,0,[])]]
/-- MergeLine.leave(I)I -/
def cd_145 : List (List xI) := [[(0,1,2,1,0,0,0,0,[]), (1,1,1,1,1,0,0,0,[]), (2,3,40,9,161,2,99,0,[466,468,1]), (5,0,27,0,1,0,0,0,[])],
  [(5,3,29,0,2,1,0,0,[]), (8,2,0,1,0,0,0,(-2),[]), (10,1,46,0,0,0,0,0,[])],
  [(11,1,2,1,0,0,0,0,[]), (12,3,35,0,9,0,14,0,[314]), (15,3,35,1,4,2,29,0,[291]), (18,1,1,1,1,0,0,0,[]), (19,3,40,2,27,2,121,0,[521,522,523]), (22,0,27,0,3,0,0,0,[])],
  [(22,1,0,0,0,0,0,1,[]), (23,3,28,0,4,0,0,0,[]), (26,2,0,1,0,0,0,(-3),[]), (28,1,46,0,0,0,0,0,[])],
  [(29,1,2,1,0,0,0,0,[]), (30,3,35,0,9,0,14,0,[314]), (33,1,1,1,1,0,0,0,[]), (34,2,0,1,0,0,0,7,[]), (36,3,41,4,64,3,157,0,[599,600,601]), (39,0,27,0,5,0,0,0,[])],
  [(39,1,0,0,0,0,0,1,[]), (40,1,46,0,0,0,0,0,[])]]
/-- MergeLine.hand(IZ)I -/
def cd_146 : List (List xI) := [[(0,1,2,1,0,0,0,0,[]), (1,1,1,1,1,0,0,0,[]), (2,3,40,9,161,2,99,0,[466,468,1]), (5,0,27,0,1,0,0,0,[])],
  [(5,3,29,0,2,1,0,0,[]), (8,2,0,1,0,0,0,(-2),[]), (10,1,46,0,0,0,0,0,[])],
  [(11,1,2,1,0,0,0,0,[]), (12,3,35,0,9,0,14,0,[314]), (15,3,35,1,4,2,29,0,[291]), (18,1,1,1,1,0,0,0,[]), (19,3,40,2,26,2,160,0,[613,614,615]), (22,0,27,0,3,0,0,0,[])],
  [(22,1,0,0,0,0,0,3,[]), (23,3,28,0,4,0,0,0,[]), (26,2,0,1,0,0,0,(-3),[]), (28,1,46,0,0,0,0,0,[])],
  [(29,1,2,1,0,0,0,0,[]), (30,3,35,0,9,0,14,0,[314]), (33,3,35,1,4,2,29,0,[291]), (36,1,1,1,1,0,0,0,[]), (37,1,1,1,2,0,0,0,[]), (38,3,42,0,160,1,86,0,[446,447]), (41,0,27,0,5,0,0,0,[])],
  [(41,3,40,2,37,3,161,0,[617,618,619]), (44,0,27,0,6,0,0,0,[])],
  [(44,1,46,0,0,0,0,0,[])]]
/-- MergeLine.size(I)I -/
def cd_147 : List (List xI) := [[(0,1,1,1,1,0,0,0,[]), (1,1,0,0,0,0,0,1,[]), (2,3,28,0,1,2,0,0,[]), (5,1,1,1,1,0,0,0,[]), (6,2,0,1,0,0,0,8,[]), (8,3,28,0,2,5,0,0,[]), (11,0,27,0,1,0,0,0,[])],
  [(11,2,0,1,0,0,0,(-2),[]), (13,1,46,0,0,0,0,0,[])],
  [(14,1,2,1,0,0,0,0,[]), (15,3,35,0,9,0,14,0,[314]), (18,1,1,1,1,0,0,0,[]), (19,3,40,4,62,2,164,0,[625,626,627]), (22,0,27,0,3,0,0,0,[])],
  [(22,1,46,0,0,0,0,0,[])]]
/-- MergeLine.go(I)I -/
def cd_148 : List (List xI) := [[(0,1,1,1,1,0,0,0,[]), (1,1,0,0,0,0,0,1,[]), (2,3,28,0,1,2,0,0,[]), (5,1,1,1,1,0,0,0,[]), (6,2,0,1,0,0,0,10,[]), (8,3,28,0,2,5,0,0,[]), (11,0,27,0,1,0,0,0,[])],
  [(11,2,0,1,0,0,0,(-2),[]), (13,1,46,0,0,0,0,0,[])],
  [(14,1,2,1,0,0,0,0,[]), (15,3,35,0,9,0,14,0,[314]), (18,3,35,1,4,5,167,0,[297]), (21,3,40,6,89,1,171,0,[633,634,635]), (24,0,27,0,3,0,0,0,[])],
  [(24,3,0,2,0,0,0,600,[]), (27,1,1,1,1,0,0,0,[]), (28,1,9,0,0,0,0,0,[]), (29,3,28,0,4,5,0,0,[]), (32,2,0,1,0,0,0,(-4),[]), (34,1,46,0,0,0,0,0,[])],
  [(35,1,0,0,0,0,0,0,[]), (36,1,4,1,2,0,0,0,[]), (37,1,0,0,0,0,0,0,[]), (38,1,4,1,3,0,0,0,[]), (39,0,27,0,5,0,0,0,[])],
  [(39,1,1,1,3,0,0,0,[]), (40,2,0,3,0,0,176,1000000,[637]), (42,3,28,0,12,3,0,0,[]), (45,1,1,1,2,0,0,0,[]), (46,1,1,1,1,0,0,0,[]), (47,3,28,0,12,3,0,0,[]), (50,1,2,1,0,0,0,0,[]), (51,3,35,0,9,0,14,0,[314]), (54,3,40,4,67,1,177,0,[638,639,640]), (57,0,27,0,6,0,0,0,[])],
  [(57,3,29,0,12,0,0,0,[]), (60,1,2,1,0,0,0,0,[]), (61,3,35,0,9,0,14,0,[314]), (64,3,41,4,73,1,181,0,[729,730,731]), (67,0,27,0,7,0,0,0,[])],
  [(67,1,2,1,0,0,0,0,[]), (68,3,35,0,9,0,14,0,[314]), (71,3,40,4,74,1,184,0,[757,758,759]), (74,0,27,0,8,0,0,0,[])],
  [(74,3,29,0,10,0,0,0,[]), (77,1,2,1,0,0,0,0,[]), (78,3,35,0,9,0,14,0,[314]), (81,3,41,4,75,1,187,0,[765,766,767]), (84,0,27,0,9,0,0,0,[])],
  [(84,3,7,0,2,0,0,1,[]), (87,3,26,0,11,0,0,0,[])],
  [(90,1,2,1,0,0,0,0,[]), (91,3,35,0,9,0,14,0,[314]), (94,3,41,4,78,1,190,0,[835,836,837]), (97,0,27,0,11,0,0,0,[])],
  [(97,3,7,0,3,0,0,1,[]), (100,3,26,0,5,0,0,0,[])],
  [(103,1,1,1,2,0,0,0,[]), (104,1,46,0,0,0,0,0,[])]]
/-- MergeLine.about(II)I -/
def cd_149 : List (List xI) := [[(0,1,2,1,0,0,0,0,[]), (1,1,1,1,1,0,0,0,[]), (2,3,40,9,161,2,99,0,[466,468,1]), (5,0,27,0,1,0,0,0,[])],
  [(5,3,29,0,2,1,0,0,[]), (8,2,0,1,0,0,0,(-2),[]), (10,1,46,0,0,0,0,0,[])],
  [(11,1,1,1,2,0,0,0,[]), (12,40,30,0,0,15,0,0,[3,5,7,9,11,13])],
  [(52,1,2,1,0,0,0,0,[]), (53,3,35,0,9,0,14,0,[314]), (56,3,35,1,4,2,29,0,[291]), (59,1,1,1,1,0,0,0,[]), (60,3,40,2,26,2,160,0,[613,614,615]), (63,0,27,0,4,0,0,0,[])],
  [(63,1,46,0,0,0,0,0,[])],
  [(64,1,2,1,0,0,0,0,[]), (65,3,35,0,9,0,14,0,[314]), (68,1,1,1,1,0,0,0,[]), (69,3,40,4,63,2,193,0,[860,861,862]), (72,0,27,0,6,0,0,0,[])],
  [(72,1,46,0,0,0,0,0,[])],
  [(73,1,2,1,0,0,0,0,[]), (74,3,35,0,9,0,14,0,[314]), (77,3,35,1,4,2,29,0,[291]), (80,1,1,1,1,0,0,0,[]), (81,3,40,2,29,2,196,0,[869,870,871]), (84,0,27,0,8,0,0,0,[])],
  [(84,1,46,0,0,0,0,0,[])],
  [(85,1,2,1,0,0,0,0,[]), (86,3,35,0,9,0,14,0,[314]), (89,3,35,1,4,2,29,0,[291]), (92,1,1,1,1,0,0,0,[]), (93,3,40,2,31,2,199,0,[873,874,875]), (96,0,27,0,10,0,0,0,[])],
  [(96,1,46,0,0,0,0,0,[])],
  [(97,1,2,1,0,0,0,0,[]), (98,3,35,0,9,0,14,0,[314]), (101,3,35,1,4,2,29,0,[291]), (104,1,1,1,1,0,0,0,[]), (105,3,40,2,33,2,108,0,[488,480,481]), (108,0,27,0,12,0,0,0,[])],
  [(108,1,46,0,0,0,0,0,[])],
  [(109,1,2,1,0,0,0,0,[]), (110,3,35,0,9,0,14,0,[314]), (113,3,35,1,4,2,29,0,[291]), (116,1,1,1,1,0,0,0,[]), (117,3,40,2,34,2,202,0,[877,668,669]), (120,0,27,0,14,0,0,0,[])],
  [(120,1,46,0,0,0,0,0,[])],
  [(121,2,0,1,0,0,0,(-2),[]), (123,1,46,0,0,0,0,0,[])]]
/-- MergeLine.inLine(I)I -/
def cd_150 : List (List xI) := [[(0,1,2,1,0,0,0,0,[]), (1,3,35,0,9,0,14,0,[314]), (4,3,35,1,4,3,149,0,[293]), (7,1,1,1,1,0,0,0,[]), (8,3,40,5,84,2,205,0,[882,659,660]), (11,0,27,0,1,0,0,0,[])],
  [(11,1,46,0,0,0,0,0,[])]]
/-- MergeLine.inWork(I)I -/
def cd_151 : List (List xI) := [[(0,1,2,1,0,0,0,0,[]), (1,3,35,0,9,0,14,0,[314]), (4,3,35,1,4,4,208,0,[295]), (7,1,1,1,1,0,0,0,[]), (8,3,40,7,107,2,212,0,[887,785,786]), (11,0,27,0,1,0,0,0,[])],
  [(11,1,46,0,0,0,0,0,[])]]
/-- MergeLine.at(IIII)I -/
def cd_152 : List (List xI) := [[(0,1,2,1,0,0,0,0,[]), (1,1,1,1,1,0,0,0,[]), (2,3,40,9,162,2,78,0,[398,400,0]), (5,0,27,0,1,0,0,0,[])],
  [(5,3,29,0,4,0,0,0,[]), (8,1,1,1,2,0,0,0,[]), (9,2,0,1,0,0,0,8,[]), (11,3,42,0,159,2,25,0,[328,329]), (14,0,27,0,2,0,0,0,[])],
  [(14,3,29,0,4,0,0,0,[]), (17,2,1,0,4,0,0,0,[]), (19,1,0,0,0,0,0,2,[]), (20,3,42,0,159,2,25,0,[328,329]), (23,0,27,0,3,0,0,0,[])],
  [(23,3,29,0,5,1,0,0,[]), (26,0,27,0,4,0,0,0,[])],
  [(26,2,0,1,0,0,0,(-2),[]), (28,1,46,0,0,0,0,0,[])],
  [(29,1,1,1,3,0,0,0,[]), (30,1,2,1,0,0,0,0,[]), (31,3,35,0,9,0,14,0,[314]), (34,3,35,1,4,0,39,0,[287]), (37,1,1,1,1,0,0,0,[]), (38,1,1,1,2,0,0,0,[]), (39,3,40,0,5,3,43,0,[335,336,337]), (42,0,27,0,6,0,0,0,[])],
  [(42,3,42,0,159,2,25,0,[328,329]), (45,0,27,0,7,0,0,0,[])],
  [(45,3,29,0,8,1,0,0,[]), (48,1,0,0,0,0,0,(-1),[]), (49,1,46,0,0,0,0,0,[])],
  [(50,1,2,1,0,0,0,0,[]), (51,3,35,0,9,0,14,0,[314]), (54,3,35,1,4,0,39,0,[287]), (57,1,1,1,1,0,0,0,[]), (58,1,1,1,2,0,0,0,[]), (59,1,1,1,3,0,0,0,[]), (60,3,40,0,7,4,215,0,[892,419,420]), (63,0,27,0,9,0,0,0,[])],
  [(63,2,4,0,5,0,0,0,[]), (65,2,1,0,4,0,0,0,[]), (67,1,0,0,0,0,0,1,[]), (68,3,28,0,10,1,0,0,[]), (71,2,1,0,5,0,0,0,[]), (73,3,26,0,11,0,0,0,[])],
  [(76,1,2,1,0,0,0,0,[]), (77,3,35,0,9,0,14,0,[314]), (80,3,35,1,4,0,39,0,[287]), (83,2,1,0,5,0,0,0,[]), (85,3,40,0,8,2,219,0,[893,423,424]), (88,0,27,0,11,0,0,0,[])],
  [(88,1,46,0,0,0,0,0,[])]]
/-- MergeLine.log(II)I -/
def cd_153 : List (List xI) := [[(0,1,1,1,2,0,0,0,[]), (1,1,0,0,0,0,0,4,[]), (2,3,42,0,159,2,25,0,[328,329]), (5,0,27,0,1,0,0,0,[])],
  [(5,3,29,0,2,1,0,0,[]), (8,2,0,1,0,0,0,(-2),[]), (10,1,46,0,0,0,0,0,[])],
  [(11,1,1,1,1,0,0,0,[]), (12,1,2,1,0,0,0,0,[]), (13,3,35,0,9,0,14,0,[314]), (16,3,35,1,4,5,167,0,[297]), (19,3,40,6,89,1,171,0,[633,634,635]), (22,0,27,0,3,0,0,0,[])],
  [(22,3,42,0,159,2,25,0,[328,329]), (25,0,27,0,4,0,0,0,[])],
  [(25,3,29,0,6,0,0,0,[]), (28,1,2,1,0,0,0,0,[]), (29,3,35,0,9,0,14,0,[314]), (32,3,35,1,4,5,167,0,[297]), (35,1,1,1,1,0,0,0,[]), (36,1,1,1,2,0,0,0,[]), (37,3,40,6,93,3,222,0,[898,899,900]), (40,0,27,0,5,0,0,0,[])],
  [(40,3,26,0,7,0,0,0,[])],
  [(43,1,0,0,0,0,0,(-1),[]), (44,0,27,0,7,0,0,0,[])],
  [(44,1,46,0,0,0,0,0,[])]]
/-- MergeLine.alter(III)I -/
def cd_154 : List (List xI) := [[(0,1,1,1,1,0,0,0,[]), (1,1,2,1,0,0,0,0,[]), (2,3,35,0,9,0,14,0,[314]), (5,3,35,1,4,5,167,0,[297]), (8,3,40,6,89,1,171,0,[633,634,635]), (11,0,27,0,1,0,0,0,[])],
  [(11,3,42,0,159,2,25,0,[328,329]), (14,0,27,0,2,0,0,0,[])],
  [(14,3,29,0,4,0,0,0,[]), (17,1,1,1,2,0,0,0,[]), (18,1,0,0,0,0,0,4,[]), (19,3,42,0,159,2,25,0,[328,329]), (22,0,27,0,3,0,0,0,[])],
  [(22,3,29,0,4,0,0,0,[]), (25,1,1,1,3,0,0,0,[]), (26,3,29,0,5,1,0,0,[]), (29,0,27,0,4,0,0,0,[])],
  [(29,2,0,1,0,0,0,(-2),[]), (31,1,46,0,0,0,0,0,[])],
  [(32,1,2,1,0,0,0,0,[]), (33,3,35,0,9,0,14,0,[314]), (36,3,35,1,4,5,167,0,[297]), (39,1,1,1,1,0,0,0,[]), (40,1,1,1,2,0,0,0,[]), (41,1,1,1,3,0,0,0,[]), (42,3,40,6,94,4,225,0,[907,908,909]), (45,0,27,0,6,0,0,0,[])],
  [(45,1,46,0,0,0,0,0,[])]]
/-- MergeLine.check()I -/
def cd_155 : List (List xI) := [[(0,1,2,1,0,0,0,0,[]), (1,3,35,0,9,0,14,0,[314]), (4,3,35,1,4,5,167,0,[297]), (7,3,40,6,95,1,228,0,[916,917,918]), (10,0,27,0,1,0,0,0,[])],
  [(10,1,46,0,0,0,0,0,[])]]
/-- MergeLine.keep()I -/
def cd_156 : List (List xI) := [[(0,1,2,1,0,0,0,0,[]), (1,3,35,0,9,1,18,0,[315]), (4,1,2,1,0,0,0,0,[]), (5,3,35,0,9,0,14,0,[314]), (8,3,41,4,80,2,231,0,[924,925,926]), (11,0,27,0,1,0,0,0,[])],
  [(11,1,2,1,0,0,0,0,[]), (12,1,0,0,0,0,0,1,[]), (13,3,36,1,9,2,21,0,[316]), (16,1,0,0,0,0,0,1,[]), (17,1,46,0,0,0,0,0,[])]]
/-- MergeLine.goBack()I -/
def cd_157 : List (List xI) := [[(0,1,2,1,0,0,0,0,[]), (1,3,34,0,9,2,21,0,[316]), (4,3,29,0,1,1,0,0,[]), (7,2,0,1,0,0,0,(-3),[]), (9,1,46,0,0,0,0,0,[])],
  [(10,1,2,1,0,0,0,0,[]), (11,3,35,0,9,0,14,0,[314]), (14,1,2,1,0,0,0,0,[]), (15,3,35,0,9,1,18,0,[315]), (18,3,41,4,80,2,231,0,[924,925,926]), (21,0,27,0,2,0,0,0,[])],
  [(21,1,0,0,0,0,0,1,[]), (22,1,46,0,0,0,0,0,[])]]
/-- MergeLine.count(I)I -/
def cd_158 : List (List xI) := [[(0,1,1,1,1,0,0,0,[]), (1,55,30,0,0,22,0,0,[1,4,6,8,10,12,14,16,18,20])],
  [(56,1,2,1,0,0,0,0,[]), (57,3,35,0,9,0,14,0,[314]), (60,3,35,1,4,0,39,0,[287]), (63,1,2,1,0,0,0,0,[]), (64,3,35,0,9,0,14,0,[314]), (67,3,35,1,4,0,39,0,[287]), (70,3,40,0,1,1,90,0,[402,403,404]), (73,0,27,0,2,0,0,0,[])],
  [(73,3,40,0,6,2,235,0,[976,977,978]), (76,0,27,0,3,0,0,0,[])],
  [(76,1,46,0,0,0,0,0,[])],
  [(77,1,2,1,0,0,0,0,[]), (78,3,35,0,9,0,14,0,[314]), (81,3,35,1,4,1,61,0,[289]), (84,3,40,8,119,1,65,0,[366,367,368]), (87,0,27,0,5,0,0,0,[])],
  [(87,1,46,0,0,0,0,0,[])],
  [(88,1,2,1,0,0,0,0,[]), (89,3,35,0,9,0,14,0,[314]), (92,3,35,1,4,2,29,0,[291]), (95,3,40,2,23,1,33,0,[331,332,333]), (98,0,27,0,7,0,0,0,[])],
  [(98,1,46,0,0,0,0,0,[])],
  [(99,1,2,1,0,0,0,0,[]), (100,3,35,0,9,0,14,0,[314]), (103,3,35,1,4,3,149,0,[293]), (106,3,40,5,82,1,238,0,[980,647,648]), (109,0,27,0,9,0,0,0,[])],
  [(109,1,46,0,0,0,0,0,[])],
  [(110,1,2,1,0,0,0,0,[]), (111,3,35,0,9,0,14,0,[314]), (114,3,35,1,4,4,208,0,[295]), (117,3,40,7,104,1,241,0,[981,982,983]), (120,0,27,0,11,0,0,0,[])],
  [(120,1,46,0,0,0,0,0,[])],
  [(121,1,2,1,0,0,0,0,[]), (122,3,35,0,9,0,14,0,[314]), (125,3,35,1,4,4,208,0,[295]), (128,3,40,7,98,1,244,0,[985,643,644]), (131,0,27,0,13,0,0,0,[])],
  [(131,1,46,0,0,0,0,0,[])],
  [(132,1,2,1,0,0,0,0,[]), (133,3,35,0,9,0,14,0,[314]), (136,3,35,1,4,0,39,0,[287]), (139,3,40,0,1,1,90,0,[402,403,404]), (142,0,27,0,15,0,0,0,[])],
  [(142,1,46,0,0,0,0,0,[])],
  [(143,1,2,1,0,0,0,0,[]), (144,3,35,0,9,0,14,0,[314]), (147,3,35,1,4,5,167,0,[297]), (150,3,40,6,89,1,171,0,[633,634,635]), (153,0,27,0,17,0,0,0,[])],
  [(153,1,46,0,0,0,0,0,[])],
  [(154,1,2,1,0,0,0,0,[]), (155,3,35,0,9,0,14,0,[314]), (158,3,35,1,4,0,39,0,[287]), (161,3,40,0,2,1,247,0,[986,987,988]), (164,0,27,0,19,0,0,0,[])],
  [(164,1,46,0,0,0,0,0,[])],
  [(165,1,2,1,0,0,0,0,[]), (166,3,35,0,9,0,14,0,[314]), (169,3,35,1,4,1,61,0,[289]), (172,3,40,8,120,1,250,0,[990,991,992]), (175,0,27,0,21,0,0,0,[])],
  [(175,1,46,0,0,0,0,0,[])],
  [(176,2,0,1,0,0,0,(-2),[]), (178,1,46,0,0,0,0,0,[])]]
/-- MergeLine.isIn(II)Z -/
def cd_159 : List (List xI) := [[(0,1,1,1,0,0,0,0,[]), (1,3,29,0,1,2,0,0,[]), (4,1,1,1,0,0,0,0,[]), (5,1,1,1,1,0,0,0,[]), (6,3,28,0,1,3,0,0,[]), (9,1,0,0,0,0,0,1,[]), (10,3,26,0,2,0,0,0,[])],
  [(13,1,0,0,0,0,0,0,[]), (14,0,27,0,2,0,0,0,[])],
  [(14,1,46,0,1,0,0,0,[])]]
/-- MergeLine.asNumber(Z)I -/
def cd_160 : List (List xI) := [[(0,1,1,1,0,0,0,0,[]), (1,3,29,0,1,0,0,0,[]), (4,1,0,0,0,0,0,1,[]), (5,3,26,0,2,0,0,0,[])],
  [(8,1,0,0,0,0,0,0,[]), (9,0,27,0,2,0,0,0,[])],
  [(9,1,46,0,0,0,0,0,[])]]
/-- MergeLine.isChange(I)Z -/
def cd_161 : List (List xI) := [[(0,1,1,1,1,0,0,0,[]), (1,1,2,1,0,0,0,0,[]), (2,3,35,0,9,0,14,0,[314]), (5,3,35,1,4,2,29,0,[291]), (8,3,40,2,23,1,33,0,[331,332,333]), (11,0,27,0,1,0,0,0,[])],
  [(11,3,42,0,159,2,25,0,[328,329]), (14,0,27,0,2,0,0,0,[])],
  [(14,1,46,0,1,0,0,0,[])]]
/-- MergeLine.isTakenState(I)Z -/
def cd_162 : List (List xI) := [[(0,1,1,1,1,0,0,0,[]), (1,3,29,0,2,2,0,0,[]), (4,1,1,1,1,0,0,0,[]), (5,1,2,1,0,0,0,0,[]), (6,3,35,0,9,0,14,0,[314]), (9,3,35,1,4,0,39,0,[287]), (12,3,40,0,1,1,90,0,[402,403,404]), (15,0,27,0,1,0,0,0,[])],
  [(15,3,28,0,2,4,0,0,[]), (18,1,0,0,0,0,0,1,[]), (19,3,26,0,3,0,0,0,[])],
  [(22,1,0,0,0,0,0,0,[]), (23,0,27,0,3,0,0,0,[])],
  [(23,1,46,0,1,0,0,0,[])]]
/-- MergeLine.isTestAsTold(IIII)Z -/
def cd_163 : List (List xI) := [[(0,1,1,1,0,0,0,0,[]), (1,35,30,0,0,19,0,0,[1,6,17,11,17])],
  [(36,1,1,1,1,0,0,0,[]), (37,2,0,1,0,0,0,8,[]), (39,3,42,0,159,2,25,0,[328,329]), (42,0,27,0,2,0,0,0,[])],
  [(42,3,29,0,4,0,0,0,[]), (45,1,1,1,2,0,0,0,[]), (46,1,0,0,0,0,0,1,[]), (47,3,28,0,4,2,0,0,[]), (50,1,1,1,2,0,0,0,[]), (51,3,0,2,0,0,0,1000,[]), (54,3,28,0,4,4,0,0,[]), (57,1,1,1,3,0,0,0,[]), (58,1,1,1,2,0,0,0,[]), (59,3,42,0,159,2,25,0,[328,329]), (62,0,27,0,3,0,0,0,[])],
  [(62,3,29,0,4,0,0,0,[]), (65,1,0,0,0,0,0,1,[]), (66,3,26,0,5,0,0,0,[])],
  [(69,1,0,0,0,0,0,0,[]), (70,0,27,0,5,0,0,0,[])],
  [(70,1,46,0,1,0,0,0,[])],
  [(71,1,1,1,1,0,0,0,[]), (72,2,0,1,0,0,0,32,[]), (74,3,42,0,159,2,25,0,[328,329]), (77,0,27,0,7,0,0,0,[])],
  [(77,3,29,0,9,0,0,0,[]), (80,1,1,1,2,0,0,0,[]), (81,2,0,1,0,0,0,10,[]), (83,3,42,0,159,2,25,0,[328,329]), (86,0,27,0,8,0,0,0,[])],
  [(86,3,29,0,9,0,0,0,[]), (89,1,0,0,0,0,0,1,[]), (90,3,26,0,10,0,0,0,[])],
  [(93,1,0,0,0,0,0,0,[]), (94,0,27,0,10,0,0,0,[])],
  [(94,1,46,0,1,0,0,0,[])],
  [(95,1,1,1,1,0,0,0,[]), (96,2,0,1,0,0,0,8,[]), (98,3,42,0,159,2,25,0,[328,329]), (101,0,27,0,12,0,0,0,[])],
  [(101,3,29,0,15,0,0,0,[]), (104,1,1,1,2,0,0,0,[]), (105,2,0,1,0,0,0,25,[]), (107,3,42,0,159,2,25,0,[328,329]), (110,0,27,0,13,0,0,0,[])],
  [(110,3,29,0,15,0,0,0,[]), (113,1,1,1,3,0,0,0,[]), (114,2,0,1,0,0,0,25,[]), (116,3,42,0,159,2,25,0,[328,329]), (119,0,27,0,14,0,0,0,[])],
  [(119,3,29,0,15,0,0,0,[]), (122,1,0,0,0,0,0,1,[]), (123,3,26,0,16,0,0,0,[])],
  [(126,1,0,0,0,0,0,0,[]), (127,0,27,0,16,0,0,0,[])],
  [(127,1,46,0,1,0,0,0,[])],
  [(128,1,1,1,1,0,0,0,[]), (129,2,0,1,0,0,0,8,[]), (131,3,42,0,159,2,25,0,[328,329]), (134,0,27,0,18,0,0,0,[])],
  [(134,1,46,0,1,0,0,0,[])],
  [(135,1,0,0,0,0,0,0,[]), (136,1,46,0,1,0,0,0,[])]]
/-- MergeLineModel.in(JJJ)Z -/
def cd_164 : List (List xI) := [[(0,1,3,1,0,0,0,0,[]), (1,1,3,1,2,0,0,0,[]), (2,1,19,0,0,0,0,0,[]), (3,3,29,0,1,2,0,0,[]), (6,1,3,1,0,0,0,0,[]), (7,2,3,0,4,0,0,0,[]), (9,1,19,0,0,0,0,0,[]), (10,3,29,0,1,4,0,0,[]), (13,1,0,0,0,0,0,1,[]), (14,3,26,0,2,0,0,0,[])],
  [(17,1,0,0,0,0,0,0,[]), (18,0,27,0,2,0,0,0,[])],
  [(18,1,46,0,1,0,0,0,[])]]
/-- MergeLineModel.<init>(I)V -/
def cd_165 : List (List xI) := [[(0,1,2,1,0,0,0,0,[]), (1,3,43,0,0,0,7,0,[1002]), (4,1,2,1,0,0,0,0,[]), (5,2,0,3,0,0,13,54096,[1003]), (7,2,39,0,0,0,0,0,[]), (9,3,37,0,10,0,14,0,[1004]), (12,1,2,1,0,0,0,0,[]), (13,2,0,3,0,0,13,54096,[1003]), (15,2,39,0,0,0,0,0,[]), (17,3,37,0,10,1,18,0,[1005]), (20,1,2,1,0,0,0,0,[]), (21,2,0,1,0,0,0,60,[]), (23,2,39,0,0,0,0,0,[]), (25,3,37,0,10,4,21,0,[1008]), (28,1,2,1,0,0,0,0,[]), (29,2,0,1,0,0,0,16,[]), (31,2,39,0,0,0,0,0,[]), (33,3,37,0,10,5,24,0,[1009]), (36,1,2,1,0,0,0,0,[]), (37,3,35,0,10,0,14,0,[1004]), (40,1,0,0,0,0,0,2,[]), (41,1,1,1,1,0,0,0,[]), (42,1,33,0,0,0,0,0,[]), (43,1,2,1,0,0,0,0,[]), (44,3,35,0,10,0,14,0,[1004]), (47,1,0,0,0,0,0,3,[]), (48,1,0,0,0,0,0,1,[]), (49,1,33,0,0,0,0,0,[]), (50,1,2,1,0,0,0,0,[]), (51,3,35,0,10,0,14,0,[1004]), (54,1,0,0,0,0,0,4,[]), (55,1,0,0,0,0,0,1,[]), (56,1,33,0,0,0,0,0,[]), (57,1,2,1,0,0,0,0,[]), (58,3,35,0,10,0,14,0,[1004]), (61,1,0,0,0,0,0,5,[]), (62,1,0,0,0,0,0,4,[]), (63,1,33,0,0,0,0,0,[]), (64,1,47,0,0,0,0,0,[])]]
/-- MergeLineModel.lines(II)I -/
def cd_166 : List (List xI) := [[(0,1,2,1,0,0,0,0,[]), (1,3,35,0,10,0,14,0,[1004]), (4,2,0,1,0,0,0,12,[]), (6,2,0,1,0,0,0,8,[]), (8,1,1,1,1,0,0,0,[]), (9,1,10,0,0,0,0,0,[]), (10,1,8,0,0,0,0,0,[]), (11,1,1,1,2,0,0,0,[]), (12,1,8,0,0,0,0,0,[]), (13,1,32,0,0,0,0,0,[]), (14,1,46,0,0,0,0,0,[])]]
/-- MergeLineModel.cell(III)I -/
def cd_167 : List (List xI) := [[(0,3,0,2,0,0,0,320,[]), (3,1,1,1,0,0,0,0,[]), (4,1,10,0,0,0,0,0,[]), (5,2,0,1,0,0,0,40,[]), (7,1,1,1,1,0,0,0,[]), (8,1,10,0,0,0,0,0,[]), (9,1,8,0,0,0,0,0,[]), (10,1,1,1,2,0,0,0,[]), (11,1,8,0,0,0,0,0,[]), (12,1,46,0,0,0,0,0,[])]]
/-- MergeLineModel.copyState(II)V -/
def cd_168 : List (List xI) := [[(0,1,0,0,0,0,0,0,[]), (1,1,4,1,3,0,0,0,[]), (2,0,27,0,1,0,0,0,[])],
  [(2,1,1,1,3,0,0,0,[]), (3,2,0,1,0,0,0,8,[]), (5,3,28,0,9,3,0,0,[]), (8,1,2,1,0,0,0,0,[]), (9,3,35,0,10,0,14,0,[1004]), (12,2,0,1,0,0,0,12,[]), (14,2,0,1,0,0,0,8,[]), (16,1,1,1,2,0,0,0,[]), (17,1,10,0,0,0,0,0,[]), (18,1,8,0,0,0,0,0,[]), (19,1,1,1,3,0,0,0,[]), (20,1,8,0,0,0,0,0,[]), (21,1,2,1,0,0,0,0,[]), (22,3,35,0,10,0,14,0,[1004]), (25,2,0,1,0,0,0,12,[]), (27,2,0,1,0,0,0,8,[]), (29,1,1,1,1,0,0,0,[]), (30,1,10,0,0,0,0,0,[]), (31,1,8,0,0,0,0,0,[]), (32,1,1,1,3,0,0,0,[]), (33,1,8,0,0,0,0,0,[]), (34,1,32,0,0,0,0,0,[]), (35,1,33,0,0,0,0,0,[]), (36,1,0,0,0,0,0,0,[]), (37,2,4,0,4,0,0,0,[]), (39,0,27,0,2,0,0,0,[])],
  [(39,2,1,0,4,0,0,0,[]), (41,1,2,1,0,0,0,0,[]), (42,1,1,1,1,0,0,0,[]), (43,1,1,1,3,0,0,0,[]), (44,3,40,10,166,3,27,0,[1035,1037,16]), (47,0,27,0,3,0,0,0,[])],
  [(47,3,28,0,8,3,0,0,[]), (50,1,2,1,0,0,0,0,[]), (51,3,35,0,10,0,14,0,[1004]), (54,3,0,2,0,0,0,524,[]), (57,1,1,1,2,0,0,0,[]), (58,1,1,1,3,0,0,0,[]), (59,2,1,0,4,0,0,0,[]), (61,3,42,0,167,3,31,0,[1039,1040]), (64,0,27,0,4,0,0,0,[])],
  [(64,1,8,0,0,0,0,0,[]), (65,1,2,1,0,0,0,0,[]), (66,3,35,0,10,0,14,0,[1004]), (69,3,0,2,0,0,0,524,[]), (72,1,1,1,1,0,0,0,[]), (73,1,1,1,3,0,0,0,[]), (74,2,1,0,4,0,0,0,[]), (76,3,42,0,167,3,31,0,[1039,1040]), (79,0,27,0,5,0,0,0,[])],
  [(79,1,8,0,0,0,0,0,[]), (80,1,32,0,0,0,0,0,[]), (81,1,33,0,0,0,0,0,[]), (82,1,2,1,0,0,0,0,[]), (83,3,35,0,10,0,14,0,[1004]), (86,3,0,2,0,0,0,21004,[]), (89,1,1,1,2,0,0,0,[]), (90,1,1,1,3,0,0,0,[]), (91,2,1,0,4,0,0,0,[]), (93,3,42,0,167,3,31,0,[1039,1040]), (96,0,27,0,6,0,0,0,[])],
  [(96,1,8,0,0,0,0,0,[]), (97,1,2,1,0,0,0,0,[]), (98,3,35,0,10,0,14,0,[1004]), (101,3,0,2,0,0,0,21004,[]), (104,1,1,1,1,0,0,0,[]), (105,1,1,1,3,0,0,0,[]), (106,2,1,0,4,0,0,0,[]), (108,3,42,0,167,3,31,0,[1039,1040]), (111,0,27,0,7,0,0,0,[])],
  [(111,1,8,0,0,0,0,0,[]), (112,1,32,0,0,0,0,0,[]), (113,1,33,0,0,0,0,0,[]), (114,3,7,0,4,0,0,1,[]), (117,3,26,0,2,0,0,0,[])],
  [(120,3,7,0,3,0,0,1,[]), (123,3,26,0,1,0,0,0,[])],
  [(126,1,47,0,0,0,0,0,[])]]
/-- MergeLineModel.isFile(I)Z -/
def cd_169 : List (List xI) := [[(0,1,1,1,0,0,0,0,[]), (1,1,16,0,0,0,0,0,[]), (2,1,18,0,0,0,0,0,[]), (3,3,18,1,0,0,35,7,[1030]), (6,3,42,0,164,3,37,0,[1031,1032]), (9,0,27,0,1,0,0,0,[])],
  [(9,1,46,0,1,0,0,0,[])]]
/-- MergeLineModel.line(II)I -/
def cd_170 : List (List xI) := [[(0,1,2,1,0,0,0,0,[]), (1,1,0,0,0,0,0,0,[]), (2,3,36,0,10,3,1,0,[1007]), (5,1,1,1,1,0,0,0,[]), (6,3,42,0,169,1,41,0,[1027,1028]), (9,0,27,0,1,0,0,0,[])],
  [(9,3,29,0,3,0,0,0,[]), (12,1,1,1,2,0,0,0,[]), (13,1,16,0,0,0,0,0,[]), (14,1,18,0,0,0,0,0,[]), (15,3,18,1,0,0,45,9999,[1034]), (18,3,42,0,164,3,37,0,[1031,1032]), (21,0,27,0,2,0,0,0,[])],
  [(21,3,29,0,4,1,0,0,[]), (24,0,27,0,3,0,0,0,[])],
  [(24,2,0,1,0,0,0,(-2),[]), (26,1,46,0,0,0,0,0,[])],
  [(27,1,2,1,0,0,0,0,[]), (28,3,35,0,10,0,14,0,[1004]), (31,2,0,1,0,0,0,7,[]), (33,1,32,0,0,0,0,0,[]), (34,3,29,0,5,5,0,0,[]), (37,2,0,1,0,0,0,(-3),[]), (39,1,46,0,0,0,0,0,[])],
  [(40,1,2,1,0,0,0,0,[]), (41,1,0,0,0,0,0,0,[]), (42,1,1,1,1,0,0,0,[]), (43,3,40,10,166,3,27,0,[1035,1037,16]), (46,0,27,0,6,0,0,0,[])],
  [(46,1,4,1,3,0,0,0,[]), (47,1,1,1,3,0,0,0,[]), (48,2,0,1,0,0,0,24,[]), (50,3,28,0,7,1,0,0,[]), (53,2,0,1,0,0,0,(-4),[]), (55,1,46,0,0,0,0,0,[])],
  [(56,1,2,1,0,0,0,0,[]), (57,3,35,0,10,0,14,0,[1004]), (60,1,0,0,0,0,0,1,[]), (61,1,24,0,0,0,0,0,[]), (62,1,32,0,0,0,0,0,[]), (63,1,0,0,0,0,0,1,[]), (64,1,8,0,0,0,0,0,[]), (65,1,33,0,0,0,0,0,[]), (66,1,2,1,0,0,0,0,[]), (67,3,35,0,10,0,14,0,[1004]), (70,3,0,2,0,0,0,524,[]), (73,1,0,0,0,0,0,0,[]), (74,1,1,1,1,0,0,0,[]), (75,1,1,1,3,0,0,0,[]), (76,3,42,0,167,3,31,0,[1039,1040]), (79,0,27,0,8,0,0,0,[])],
  [(79,1,8,0,0,0,0,0,[]), (80,1,1,1,2,0,0,0,[]), (81,1,33,0,0,0,0,0,[]), (82,1,2,1,0,0,0,0,[]), (83,3,35,0,10,0,14,0,[1004]), (86,3,0,2,0,0,0,21004,[]), (89,1,0,0,0,0,0,0,[]), (90,1,1,1,1,0,0,0,[]), (91,1,1,1,3,0,0,0,[]), (92,3,42,0,167,3,31,0,[1039,1040]), (95,0,27,0,9,0,0,0,[])],
  [(95,1,8,0,0,0,0,0,[]), (96,1,2,1,0,0,0,0,[]), (97,3,35,0,10,0,14,0,[1004]), (100,1,0,0,0,0,0,1,[]), (101,1,32,0,0,0,0,0,[]), (102,1,33,0,0,0,0,0,[]), (103,1,2,1,0,0,0,0,[]), (104,3,35,0,10,0,14,0,[1004]), (107,2,0,1,0,0,0,12,[]), (109,1,1,1,1,0,0,0,[]), (110,1,8,0,0,0,0,0,[]), (111,1,24,0,0,0,0,0,[]), (112,1,32,0,0,0,0,0,[]), (113,1,0,0,0,0,0,1,[]), (114,1,8,0,0,0,0,0,[]), (115,1,33,0,0,0,0,0,[]), (116,1,2,1,0,0,0,0,[]), (117,3,35,0,10,0,14,0,[1004]), (120,1,0,0,0,0,0,1,[]), (121,1,32,0,0,0,0,0,[]), (122,1,46,0,0,0,0,0,[])]]
/-- MergeLineModel.at(IIII)I -/
def cd_171 : List (List xI) := [[(0,1,2,1,0,0,0,0,[]), (1,1,0,0,0,0,0,0,[]), (2,3,36,0,10,3,1,0,[1007]), (5,1,1,1,1,0,0,0,[]), (6,1,16,0,0,0,0,0,[]), (7,1,18,0,0,0,0,0,[]), (8,1,2,1,0,0,0,0,[]), (9,3,35,0,10,0,14,0,[1004]), (12,1,0,0,0,0,0,0,[]), (13,1,32,0,0,0,0,0,[]), (14,1,16,0,0,0,0,0,[]), (15,3,42,0,164,3,37,0,[1031,1032]), (18,0,27,0,1,0,0,0,[])],
  [(18,3,29,0,4,0,0,0,[]), (21,1,1,1,2,0,0,0,[]), (22,3,42,0,169,1,41,0,[1027,1028]), (25,0,27,0,2,0,0,0,[])],
  [(25,3,29,0,4,0,0,0,[]), (28,2,1,0,4,0,0,0,[]), (30,1,16,0,0,0,0,0,[]), (31,1,18,0,0,0,0,0,[]), (32,1,18,0,0,0,0,1,[]), (33,3,42,0,164,3,37,0,[1031,1032]), (36,0,27,0,3,0,0,0,[])],
  [(36,3,29,0,5,1,0,0,[]), (39,0,27,0,4,0,0,0,[])],
  [(39,2,0,1,0,0,0,(-2),[]), (41,1,46,0,0,0,0,0,[])],
  [(42,1,1,1,3,0,0,0,[]), (43,1,16,0,0,0,0,0,[]), (44,1,18,0,0,0,0,0,[]), (45,1,2,1,0,0,0,0,[]), (46,1,1,1,1,0,0,0,[]), (47,1,1,1,2,0,0,0,[]), (48,3,40,10,166,3,27,0,[1035,1037,16]), (51,0,27,0,6,0,0,0,[])],
  [(51,1,0,0,0,0,0,1,[]), (52,1,9,0,0,0,0,0,[]), (53,1,16,0,0,0,0,0,[]), (54,3,42,0,164,3,37,0,[1031,1032]), (57,0,27,0,7,0,0,0,[])],
  [(57,3,29,0,8,1,0,0,[]), (60,1,0,0,0,0,0,(-1),[]), (61,3,26,0,12,0,0,0,[])],
  [(64,2,1,0,4,0,0,0,[]), (66,3,29,0,10,1,0,0,[]), (69,1,2,1,0,0,0,0,[]), (70,3,35,0,10,0,14,0,[1004]), (73,3,0,2,0,0,0,524,[]), (76,1,1,1,1,0,0,0,[]), (77,1,1,1,2,0,0,0,[]), (78,1,1,1,3,0,0,0,[]), (79,3,42,0,167,3,31,0,[1039,1040]), (82,0,27,0,9,0,0,0,[])],
  [(82,1,8,0,0,0,0,0,[]), (83,1,32,0,0,0,0,0,[]), (84,3,26,0,12,0,0,0,[])],
  [(87,1,2,1,0,0,0,0,[]), (88,3,35,0,10,0,14,0,[1004]), (91,3,0,2,0,0,0,21004,[]), (94,1,1,1,1,0,0,0,[]), (95,1,1,1,2,0,0,0,[]), (96,1,1,1,3,0,0,0,[]), (97,3,42,0,167,3,31,0,[1039,1040]), (100,0,27,0,11,0,0,0,[])],
  [(100,1,8,0,0,0,0,0,[]), (101,1,32,0,0,0,0,0,[]), (102,0,27,0,12,0,0,0,[])],
  [(102,1,46,0,0,0,0,0,[])]]
/-- MergeLineModel.test(IIII)I -/
def cd_172 : List (List xI) := [[(0,1,2,1,0,0,0,0,[]), (1,1,0,0,0,0,0,0,[]), (2,3,36,0,10,3,1,0,[1007]), (5,1,1,1,1,0,0,0,[]), (6,1,16,0,0,0,0,0,[]), (7,1,18,0,0,0,0,0,[]), (8,3,18,1,0,0,47,4,[1050]), (11,3,42,0,164,3,37,0,[1031,1032]), (14,0,27,0,1,0,0,0,[])],
  [(14,3,29,0,5,0,0,0,[]), (17,1,1,1,2,0,0,0,[]), (18,1,16,0,0,0,0,0,[]), (19,1,18,0,0,0,0,0,[]), (20,1,1,1,1,0,0,0,[]), (21,1,0,0,0,0,0,1,[]), (22,3,28,0,2,1,0,0,[]), (25,3,18,1,0,0,49,31,[1051]), (28,3,26,0,3,0,0,0,[])],
  [(31,3,18,1,0,0,35,7,[1030]), (34,0,27,0,3,0,0,0,[])],
  [(34,3,42,0,164,3,37,0,[1031,1032]), (37,0,27,0,4,0,0,0,[])],
  [(37,3,29,0,5,0,0,0,[]), (40,1,0,0,0,0,0,1,[]), (41,3,26,0,6,0,0,0,[])],
  [(44,1,0,0,0,0,0,0,[]), (45,0,27,0,6,0,0,0,[])],
  [(45,2,4,0,5,0,0,0,[]), (47,2,1,0,5,0,0,0,[]), (49,3,29,0,10,0,0,0,[]), (52,1,1,1,1,0,0,0,[]), (53,3,29,0,9,1,0,0,[]), (56,1,1,1,3,0,0,0,[]), (57,1,16,0,0,0,0,0,[]), (58,1,18,0,0,0,0,1,[]), (59,3,18,1,0,0,51,1000,[1052]), (62,3,42,0,164,3,37,0,[1031,1032]), (65,0,27,0,7,0,0,0,[])],
  [(65,3,29,0,10,0,0,0,[]), (68,2,1,0,4,0,0,0,[]), (70,1,16,0,0,0,0,0,[]), (71,1,18,0,0,0,0,0,[]), (72,1,1,1,3,0,0,0,[]), (73,1,0,0,0,0,0,1,[]), (74,1,9,0,0,0,0,0,[]), (75,1,16,0,0,0,0,0,[]), (76,3,42,0,164,3,37,0,[1031,1032]), (79,0,27,0,8,0,0,0,[])],
  [(79,3,29,0,10,0,0,0,[]), (82,0,27,0,9,0,0,0,[])],
  [(82,1,0,0,0,0,0,1,[]), (83,3,26,0,11,0,0,0,[])],
  [(86,1,0,0,0,0,0,0,[]), (87,0,27,0,11,0,0,0,[])],
  [(87,2,4,0,5,0,0,0,[]), (89,2,1,0,5,0,0,0,[]), (91,3,29,0,14,0,0,0,[]), (94,1,1,1,1,0,0,0,[]), (95,1,0,0,0,0,0,1,[]), (96,3,28,0,13,1,0,0,[]), (99,1,1,1,3,0,0,0,[]), (100,1,16,0,0,0,0,0,[]), (101,1,18,0,0,0,0,0,[]), (102,3,18,1,0,0,53,9,[1053]), (105,3,42,0,164,3,37,0,[1031,1032]), (108,0,27,0,12,0,0,0,[])],
  [(108,3,29,0,14,0,0,0,[]), (111,0,27,0,13,0,0,0,[])],
  [(111,1,0,0,0,0,0,1,[]), (112,3,26,0,15,0,0,0,[])],
  [(115,1,0,0,0,0,0,0,[]), (116,0,27,0,15,0,0,0,[])],
  [(116,2,4,0,5,0,0,0,[]), (118,2,1,0,5,0,0,0,[]), (120,3,29,0,19,0,0,0,[]), (123,1,1,1,1,0,0,0,[]), (124,1,0,0,0,0,0,3,[]), (125,3,28,0,18,1,0,0,[]), (128,1,1,1,3,0,0,0,[]), (129,1,16,0,0,0,0,0,[]), (130,1,18,0,0,0,0,0,[]), (131,3,18,1,0,0,55,24,[1054]), (134,3,42,0,164,3,37,0,[1031,1032]), (137,0,27,0,16,0,0,0,[])],
  [(137,3,29,0,19,0,0,0,[]), (140,2,1,0,4,0,0,0,[]), (142,1,16,0,0,0,0,0,[]), (143,1,18,0,0,0,0,0,[]), (144,3,18,1,0,0,55,24,[1054]), (147,3,42,0,164,3,37,0,[1031,1032]), (150,0,27,0,17,0,0,0,[])],
  [(150,3,29,0,19,0,0,0,[]), (153,0,27,0,18,0,0,0,[])],
  [(153,1,0,0,0,0,0,1,[]), (154,3,26,0,20,0,0,0,[])],
  [(157,1,0,0,0,0,0,0,[]), (158,0,27,0,20,0,0,0,[])],
  [(158,2,4,0,5,0,0,0,[]), (160,2,1,0,5,0,0,0,[]), (162,3,29,0,21,1,0,0,[]), (165,2,0,1,0,0,0,(-2),[]), (167,1,46,0,0,0,0,0,[])],
  [(168,1,2,1,0,0,0,0,[]), (169,3,35,0,10,0,14,0,[1004]), (172,2,0,1,0,0,0,6,[]), (174,1,32,0,0,0,0,0,[]), (175,2,4,0,6,0,0,0,[]), (177,2,1,0,6,0,0,0,[]), (179,2,0,1,0,0,0,24,[]), (181,3,28,0,22,1,0,0,[]), (184,2,0,1,0,0,0,(-4),[]), (186,1,46,0,0,0,0,0,[])],
  [(187,1,2,1,0,0,0,0,[]), (188,3,35,0,10,0,14,0,[1004]), (191,2,0,1,0,0,0,6,[]), (193,1,24,0,0,0,0,0,[]), (194,1,32,0,0,0,0,0,[]), (195,1,0,0,0,0,0,1,[]), (196,1,8,0,0,0,0,0,[]), (197,1,33,0,0,0,0,0,[]), (198,1,2,1,0,0,0,0,[]), (199,3,35,0,10,0,14,0,[1004]), (202,2,0,3,0,0,57,41484,[1055]), (204,2,1,0,6,0,0,0,[]), (206,1,8,0,0,0,0,0,[]), (207,1,1,1,1,0,0,0,[]), (208,1,33,0,0,0,0,0,[]), (209,1,2,1,0,0,0,0,[]), (210,3,35,0,10,0,14,0,[1004]), (213,2,0,3,0,0,58,41508,[1056]), (215,2,1,0,6,0,0,0,[]), (217,1,8,0,0,0,0,0,[]), (218,1,1,1,2,0,0,0,[]), (219,1,33,0,0,0,0,0,[]), (220,1,2,1,0,0,0,0,[]), (221,3,35,0,10,0,14,0,[1004]), (224,2,0,3,0,0,59,41532,[1057]), (226,2,1,0,6,0,0,0,[]), (228,1,8,0,0,0,0,0,[]), (229,1,1,1,3,0,0,0,[]), (230,1,33,0,0,0,0,0,[]), (231,1,2,1,0,0,0,0,[]), (232,3,35,0,10,0,14,0,[1004]), (235,2,0,3,0,0,60,41556,[1058]), (237,2,1,0,6,0,0,0,[]), (239,1,8,0,0,0,0,0,[]), (240,2,1,0,4,0,0,0,[]), (242,1,33,0,0,0,0,0,[]), (243,1,2,1,0,0,0,0,[]), (244,3,35,0,10,0,14,0,[1004]), (247,2,0,3,0,0,61,41580,[1059]), (249,2,1,0,6,0,0,0,[]), (251,1,8,0,0,0,0,0,[]), (252,1,0,0,0,0,0,0,[]), (253,1,33,0,0,0,0,0,[]), (254,2,1,0,6,0,0,0,[]), (256,1,46,0,0,0,0,0,[])]]
/-- MergeLineModel.isTest(I)Z -/
def cd_173 : List (List xI) := [[(0,1,1,1,1,0,0,0,[]), (1,1,16,0,0,0,0,0,[]), (2,1,18,0,0,0,0,0,[]), (3,1,2,1,0,0,0,0,[]), (4,3,35,0,10,0,14,0,[1004]), (7,2,0,1,0,0,0,6,[]), (9,1,32,0,0,0,0,0,[]), (10,1,0,0,0,0,0,1,[]), (11,1,9,0,0,0,0,0,[]), (12,1,16,0,0,0,0,0,[]), (13,3,42,0,164,3,37,0,[1031,1032]), (16,0,27,0,1,0,0,0,[])],
  [(16,1,46,0,1,0,0,0,[])]]
/-- MergeLineModel.odds(II)I -/
def cd_174 : List (List xI) := [[(0,1,2,1,0,0,0,0,[]), (1,1,0,0,0,0,0,0,[]), (2,3,36,0,10,3,1,0,[1007]), (5,1,2,1,0,0,0,0,[]), (6,1,1,1,1,0,0,0,[]), (7,3,40,10,173,2,62,0,[1064,1066,17]), (10,0,27,0,1,0,0,0,[])],
  [(10,3,29,0,3,0,0,0,[]), (13,1,1,1,2,0,0,0,[]), (14,1,16,0,0,0,0,0,[]), (15,1,18,0,0,0,0,0,[]), (16,3,18,1,0,0,65,999,[1068]), (19,3,42,0,164,3,37,0,[1031,1032]), (22,0,27,0,2,0,0,0,[])],
  [(22,3,29,0,4,1,0,0,[]), (25,0,27,0,3,0,0,0,[])],
  [(25,2,0,1,0,0,0,(-2),[]), (27,1,46,0,0,0,0,0,[])],
  [(28,1,2,1,0,0,0,0,[]), (29,3,35,0,10,0,14,0,[1004]), (32,2,0,3,0,0,61,41580,[1059]), (34,1,1,1,1,0,0,0,[]), (35,1,8,0,0,0,0,0,[]), (36,1,1,1,2,0,0,0,[]), (37,1,33,0,0,0,0,0,[]), (38,1,0,0,0,0,0,1,[]), (39,1,46,0,0,0,0,0,[])]]
/-- MergeLineModel.tries(II)I -/
def cd_175 : List (List xI) := [[(0,1,2,1,0,0,0,0,[]), (1,1,0,0,0,0,0,0,[]), (2,3,36,0,10,3,1,0,[1007]), (5,1,1,1,1,0,0,0,[]), (6,1,16,0,0,0,0,0,[]), (7,1,18,0,0,0,0,1,[]), (8,3,18,1,0,0,53,9,[1053]), (11,3,42,0,164,3,37,0,[1031,1032]), (14,0,27,0,1,0,0,0,[])],
  [(14,3,29,0,3,0,0,0,[]), (17,1,1,1,2,0,0,0,[]), (18,1,16,0,0,0,0,0,[]), (19,1,18,0,0,0,0,1,[]), (20,1,1,1,1,0,0,0,[]), (21,1,16,0,0,0,0,0,[]), (22,3,42,0,164,3,37,0,[1031,1032]), (25,0,27,0,2,0,0,0,[])],
  [(25,3,29,0,4,1,0,0,[]), (28,0,27,0,3,0,0,0,[])],
  [(28,2,0,1,0,0,0,(-2),[]), (30,1,46,0,0,0,0,0,[])],
  [(31,1,2,1,0,0,0,0,[]), (32,3,35,0,10,0,14,0,[1004]), (35,1,0,0,0,0,0,3,[]), (36,1,1,1,1,0,0,0,[]), (37,1,33,0,0,0,0,0,[]), (38,1,2,1,0,0,0,0,[]), (39,3,35,0,10,0,14,0,[1004]), (42,1,0,0,0,0,0,4,[]), (43,1,1,1,2,0,0,0,[]), (44,1,33,0,0,0,0,0,[]), (45,1,0,0,0,0,0,1,[]), (46,1,46,0,0,0,0,0,[])]]
/-- MergeLineModel.name(II)I -/
def cd_176 : List (List xI) := [[(0,1,1,1,0,0,0,0,[]), (1,1,1,1,1,0,0,0,[]), (2,1,9,0,0,0,0,0,[]), (3,1,16,0,0,0,0,0,[]), (4,1,18,0,0,0,0,0,[]), (5,3,18,1,0,0,49,31,[1051]), (8,3,42,0,164,3,37,0,[1031,1032]), (11,0,27,0,1,0,0,0,[])],
  [(11,3,29,0,2,0,0,0,[]), (14,1,1,1,0,0,0,0,[]), (15,1,1,1,1,0,0,0,[]), (16,1,9,0,0,0,0,0,[]), (17,3,26,0,3,0,0,0,[])],
  [(20,1,0,0,0,0,0,(-1),[]), (21,0,27,0,3,0,0,0,[])],
  [(21,1,46,0,0,0,0,0,[])]]
/-- MergeLineModel.givers(II)I -/
def cd_177 : List (List xI) := [[(0,1,0,0,0,0,0,0,[]), (1,1,4,1,3,0,0,0,[]), (2,1,0,0,0,0,0,0,[]), (3,2,4,0,4,0,0,0,[]), (5,0,27,0,1,0,0,0,[])],
  [(5,2,1,0,4,0,0,0,[]), (7,2,0,1,0,0,0,8,[]), (9,3,28,0,9,3,0,0,[]), (12,1,0,0,0,0,0,0,[]), (13,2,4,0,5,0,0,0,[]), (15,0,27,0,2,0,0,0,[])],
  [(15,2,1,0,5,0,0,0,[]), (17,1,2,1,0,0,0,0,[]), (18,1,1,1,1,0,0,0,[]), (19,2,1,0,4,0,0,0,[]), (21,3,40,10,166,3,27,0,[1035,1037,16]), (24,0,27,0,3,0,0,0,[])],
  [(24,3,28,0,8,3,0,0,[]), (27,1,1,1,3,0,0,0,[]), (28,1,2,1,0,0,0,0,[]), (29,3,35,0,10,0,14,0,[1004]), (32,3,0,2,0,0,0,524,[]), (35,1,1,1,1,0,0,0,[]), (36,2,1,0,4,0,0,0,[]), (38,2,1,0,5,0,0,0,[]), (40,3,42,0,167,3,31,0,[1039,1040]), (43,0,27,0,4,0,0,0,[])],
  [(43,1,8,0,0,0,0,0,[]), (44,1,32,0,0,0,0,0,[]), (45,3,0,2,0,0,0,1000,[]), (48,3,42,0,176,2,67,0,[1085,1086]), (51,0,27,0,5,0,0,0,[])],
  [(51,1,1,1,2,0,0,0,[]), (52,3,28,0,6,1,0,0,[]), (55,1,0,0,0,0,0,1,[]), (56,3,26,0,7,0,0,0,[])],
  [(59,1,0,0,0,0,0,0,[]), (60,0,27,0,7,0,0,0,[])],
  [(60,1,8,0,0,0,0,0,[]), (61,1,4,1,3,0,0,0,[]), (62,3,7,0,5,0,0,1,[]), (65,3,26,0,2,0,0,0,[])],
  [(68,3,7,0,4,0,0,1,[]), (71,3,26,0,1,0,0,0,[])],
  [(74,1,1,1,3,0,0,0,[]), (75,1,46,0,0,0,0,0,[])]]
/-- MergeLineModel.isSo(II)Z -/
def cd_178 : List (List xI) := [[(0,1,2,1,0,0,0,0,[]), (1,3,35,0,10,0,14,0,[1004]), (4,2,0,3,0,0,58,41508,[1056]), (6,1,1,1,1,0,0,0,[]), (7,1,8,0,0,0,0,0,[]), (8,1,32,0,0,0,0,0,[]), (9,1,4,1,3,0,0,0,[]), (10,1,2,1,0,0,0,0,[]), (11,3,35,0,10,0,14,0,[1004]), (14,2,0,3,0,0,59,41532,[1057]), (16,1,1,1,1,0,0,0,[]), (17,1,8,0,0,0,0,0,[]), (18,1,32,0,0,0,0,0,[]), (19,2,4,0,4,0,0,0,[]), (21,1,2,1,0,0,0,0,[]), (22,3,35,0,10,0,14,0,[1004]), (25,2,0,3,0,0,57,41484,[1055]), (27,1,1,1,1,0,0,0,[]), (28,1,8,0,0,0,0,0,[]), (29,1,32,0,0,0,0,0,[]), (30,30,30,0,0,23,0,0,[1,8,12,20])],
  [(60,1,0,0,0,0,0,0,[]), (61,2,4,0,5,0,0,0,[]), (63,1,0,0,0,0,0,0,[]), (64,2,4,0,6,0,0,0,[]), (66,0,27,0,2,0,0,0,[])],
  [(66,2,1,0,6,0,0,0,[]), (68,1,2,1,0,0,0,0,[]), (69,1,1,1,2,0,0,0,[]), (70,1,1,1,3,0,0,0,[]), (71,3,40,10,166,3,27,0,[1035,1037,16]), (74,0,27,0,3,0,0,0,[])],
  [(74,3,28,0,5,3,0,0,[]), (77,2,1,0,5,0,0,0,[]), (79,1,2,1,0,0,0,0,[]), (80,3,35,0,10,0,14,0,[1004]), (83,3,0,2,0,0,0,524,[]), (86,1,1,1,2,0,0,0,[]), (87,1,1,1,3,0,0,0,[]), (88,2,1,0,6,0,0,0,[]), (90,3,42,0,167,3,31,0,[1039,1040]), (93,0,27,0,4,0,0,0,[])],
  [(93,1,8,0,0,0,0,0,[]), (94,1,32,0,0,0,0,0,[]), (95,1,8,0,0,0,0,0,[]), (96,2,4,0,5,0,0,0,[]), (98,3,7,0,6,0,0,1,[]), (101,3,26,0,2,0,0,0,[])],
  [(104,2,1,0,5,0,0,0,[]), (106,2,1,0,4,0,0,0,[]), (108,1,12,0,0,0,0,0,[]), (109,1,2,1,0,0,0,0,[]), (110,3,35,0,10,0,14,0,[1004]), (113,2,0,3,0,0,60,41556,[1058]), (115,1,1,1,1,0,0,0,[]), (116,1,8,0,0,0,0,0,[]), (117,1,32,0,0,0,0,0,[]), (118,3,28,0,6,1,0,0,[]), (121,1,0,0,0,0,0,1,[]), (122,3,26,0,7,0,0,0,[])],
  [(125,1,0,0,0,0,0,0,[]), (126,0,27,0,7,0,0,0,[])],
  [(126,1,46,0,1,0,0,0,[])],
  [(127,1,2,1,0,0,0,0,[]), (128,1,1,1,2,0,0,0,[]), (129,1,1,1,3,0,0,0,[]), (130,3,40,10,177,3,70,0,[1081,1083,19]), (133,0,27,0,9,0,0,0,[])],
  [(133,2,1,0,4,0,0,0,[]), (135,3,28,0,10,2,0,0,[]), (138,1,0,0,0,0,0,1,[]), (139,3,26,0,11,0,0,0,[])],
  [(142,1,0,0,0,0,0,0,[]), (143,0,27,0,11,0,0,0,[])],
  [(143,1,46,0,1,0,0,0,[])],
  [(144,1,0,0,0,0,0,0,[]), (145,2,4,0,6,0,0,0,[]), (147,0,27,0,13,0,0,0,[])],
  [(147,2,1,0,6,0,0,0,[]), (149,1,2,1,0,0,0,0,[]), (150,1,1,1,2,0,0,0,[]), (151,1,1,1,3,0,0,0,[]), (152,3,40,10,166,3,27,0,[1035,1037,16]), (155,0,27,0,14,0,0,0,[])],
  [(155,3,28,0,19,3,0,0,[]), (158,1,2,1,0,0,0,0,[]), (159,3,35,0,10,0,14,0,[1004]), (162,3,0,2,0,0,0,524,[]), (165,1,1,1,2,0,0,0,[]), (166,1,1,1,3,0,0,0,[]), (167,2,1,0,6,0,0,0,[]), (169,3,42,0,167,3,31,0,[1039,1040]), (172,0,27,0,15,0,0,0,[])],
  [(172,1,8,0,0,0,0,0,[]), (173,1,32,0,0,0,0,0,[]), (174,3,0,2,0,0,0,2000,[]), (177,3,42,0,176,2,67,0,[1085,1086]), (180,0,27,0,16,0,0,0,[])],
  [(180,2,4,0,7,0,0,0,[]), (182,2,1,0,7,0,0,0,[]), (184,1,0,0,0,0,0,(-1),[]), (185,3,28,0,18,0,0,0,[]), (188,1,2,1,0,0,0,0,[]), (189,1,1,1,2,0,0,0,[]), (190,2,1,0,7,0,0,0,[]), (192,3,40,10,177,3,70,0,[1081,1083,19]), (195,0,27,0,17,0,0,0,[])],
  [(195,3,29,0,18,1,0,0,[]), (198,1,0,0,0,0,0,0,[]), (199,1,46,0,1,0,0,0,[])],
  [(200,3,7,0,6,0,0,1,[]), (203,3,26,0,13,0,0,0,[])],
  [(206,1,0,0,0,0,0,1,[]), (207,1,46,0,1,0,0,0,[])],
  [(208,1,2,1,0,0,0,0,[]), (209,1,1,1,2,0,0,0,[]), (210,1,1,1,3,0,0,0,[]), (211,3,40,10,166,3,27,0,[1035,1037,16]), (214,0,27,0,21,0,0,0,[])],
  [(214,1,16,0,0,0,0,0,[]), (215,2,1,0,4,0,0,0,[]), (217,1,16,0,0,0,0,0,[]), (218,1,2,1,0,0,0,0,[]), (219,3,35,0,10,0,14,0,[1004]), (222,2,0,3,0,0,60,41556,[1058]), (224,1,1,1,1,0,0,0,[]), (225,1,8,0,0,0,0,0,[]), (226,1,32,0,0,0,0,0,[]), (227,1,16,0,0,0,0,0,[]), (228,3,42,0,164,3,37,0,[1031,1032]), (231,0,27,0,22,0,0,0,[])],
  [(231,1,46,0,1,0,0,0,[])],
  [(232,1,0,0,0,0,0,1,[]), (233,2,4,0,6,0,0,0,[]), (235,0,27,0,24,0,0,0,[])],
  [(235,2,1,0,6,0,0,0,[]), (237,1,2,1,0,0,0,0,[]), (238,1,1,1,2,0,0,0,[]), (239,1,1,1,3,0,0,0,[]), (240,3,40,10,166,3,27,0,[1035,1037,16]), (243,0,27,0,25,0,0,0,[])],
  [(243,3,28,0,29,3,0,0,[]), (246,1,2,1,0,0,0,0,[]), (247,3,35,0,10,0,14,0,[1004]), (250,3,0,2,0,0,0,524,[]), (253,1,1,1,2,0,0,0,[]), (254,1,1,1,3,0,0,0,[]), (255,2,1,0,6,0,0,0,[]), (257,3,42,0,167,3,31,0,[1039,1040]), (260,0,27,0,26,0,0,0,[])],
  [(260,1,8,0,0,0,0,0,[]), (261,1,32,0,0,0,0,0,[]), (262,1,2,1,0,0,0,0,[]), (263,3,35,0,10,0,14,0,[1004]), (266,3,0,2,0,0,0,524,[]), (269,1,1,1,2,0,0,0,[]), (270,1,1,1,3,0,0,0,[]), (271,2,1,0,6,0,0,0,[]), (273,1,0,0,0,0,0,1,[]), (274,1,9,0,0,0,0,0,[]), (275,3,42,0,167,3,31,0,[1039,1040]), (278,0,27,0,27,0,0,0,[])],
  [(278,1,8,0,0,0,0,0,[]), (279,1,32,0,0,0,0,0,[]), (280,3,28,0,28,3,0,0,[]), (283,1,0,0,0,0,0,0,[]), (284,1,46,0,1,0,0,0,[])],
  [(285,3,7,0,6,0,0,1,[]), (288,3,26,0,24,0,0,0,[])],
  [(291,1,0,0,0,0,0,1,[]), (292,1,46,0,1,0,0,0,[])]]
/-- MergeLineModel.holds(II)I -/
def cd_179 : List (List xI) := [[(0,1,2,1,0,0,0,0,[]), (1,1,0,0,0,0,0,0,[]), (2,3,36,0,10,3,1,0,[1007]), (5,1,2,1,0,0,0,0,[]), (6,1,1,1,1,0,0,0,[]), (7,3,40,10,173,2,62,0,[1064,1066,17]), (10,0,27,0,1,0,0,0,[])],
  [(10,3,29,0,3,0,0,0,[]), (13,1,1,1,2,0,0,0,[]), (14,1,16,0,0,0,0,0,[]), (15,1,18,0,0,0,0,0,[]), (16,1,2,1,0,0,0,0,[]), (17,3,35,0,10,0,14,0,[1004]), (20,1,0,0,0,0,0,0,[]), (21,1,32,0,0,0,0,0,[]), (22,1,16,0,0,0,0,0,[]), (23,3,42,0,164,3,37,0,[1031,1032]), (26,0,27,0,2,0,0,0,[])],
  [(26,3,29,0,4,1,0,0,[]), (29,0,27,0,3,0,0,0,[])],
  [(29,2,0,1,0,0,0,(-2),[]), (31,1,46,0,0,0,0,0,[])],
  [(32,1,2,1,0,0,0,0,[]), (33,1,1,1,1,0,0,0,[]), (34,1,1,1,2,0,0,0,[]), (35,3,40,10,178,3,73,0,[1077,1079,18]), (38,0,27,0,5,0,0,0,[])],
  [(38,3,29,0,6,0,0,0,[]), (41,1,0,0,0,0,0,1,[]), (42,3,26,0,7,0,0,0,[])],
  [(45,1,0,0,0,0,0,0,[]), (46,0,27,0,7,0,0,0,[])],
  [(46,1,46,0,0,0,0,0,[])]]
/-- MergeLineModel.isHeld(II)Z -/
def cd_180 : List (List xI) := [[(0,1,2,1,0,0,0,0,[]), (1,1,1,1,1,0,0,0,[]), (2,1,1,1,2,0,0,0,[]), (3,3,40,10,178,3,73,0,[1077,1079,18]), (6,0,27,0,1,0,0,0,[])],
  [(6,1,4,1,3,0,0,0,[]), (7,1,2,1,0,0,0,0,[]), (8,3,35,0,10,0,14,0,[1004]), (11,2,0,3,0,0,61,41580,[1059]), (13,1,1,1,1,0,0,0,[]), (14,1,8,0,0,0,0,0,[]), (15,1,32,0,0,0,0,0,[]), (16,3,29,0,2,1,0,0,[]), (19,1,2,1,0,0,0,0,[]), (20,3,35,0,10,0,14,0,[1004]), (23,2,0,1,0,0,0,11,[]), (25,1,24,0,0,0,0,0,[]), (26,1,32,0,0,0,0,0,[]), (27,1,0,0,0,0,0,1,[]), (28,1,8,0,0,0,0,0,[]), (29,1,33,0,0,0,0,0,[]), (30,1,1,1,3,0,0,0,[]), (31,1,46,0,1,0,0,0,[])],
  [(32,1,0,0,0,0,0,0,[]), (33,2,4,0,4,0,0,0,[]), (35,1,0,0,0,0,0,0,[]), (36,2,4,0,5,0,0,0,[]), (38,0,27,0,3,0,0,0,[])],
  [(38,2,1,0,4,0,0,0,[]), (40,1,2,1,0,0,0,0,[]), (41,3,35,0,10,0,14,0,[1004]), (44,1,0,0,0,0,0,4,[]), (45,1,32,0,0,0,0,0,[]), (46,3,28,0,10,3,0,0,[]), (49,2,1,0,5,0,0,0,[]), (51,1,2,1,0,0,0,0,[]), (52,3,35,0,10,0,14,0,[1004]), (55,1,0,0,0,0,0,3,[]), (56,1,32,0,0,0,0,0,[]), (57,1,2,1,0,0,0,0,[]), (58,3,35,0,10,0,14,0,[1004]), (61,1,0,0,0,0,0,4,[]), (62,1,32,0,0,0,0,0,[]), (63,1,9,0,0,0,0,0,[]), (64,3,28,0,10,4,0,0,[]), (67,1,2,1,0,0,0,0,[]), (68,3,35,0,10,0,14,0,[1004]), (71,2,0,1,0,0,0,11,[]), (73,1,24,0,0,0,0,0,[]), (74,1,32,0,0,0,0,0,[]), (75,1,0,0,0,0,0,1,[]), (76,1,8,0,0,0,0,0,[]), (77,1,33,0,0,0,0,0,[]), (78,1,2,1,0,0,0,0,[]), (79,3,35,0,10,0,14,0,[1004]), (82,1,0,0,0,0,0,2,[]), (83,1,2,1,0,0,0,0,[]), (84,3,35,0,10,0,14,0,[1004]), (87,1,0,0,0,0,0,2,[]), (88,1,32,0,0,0,0,0,[]), (89,2,0,3,0,0,77,1103515245,[1283]), (91,1,10,0,0,0,0,0,[]), (92,3,0,2,0,0,0,12345,[]), (95,1,8,0,0,0,0,0,[]), (96,1,33,0,0,0,0,0,[]), (97,1,2,1,0,0,0,0,[]), (98,3,35,0,10,0,14,0,[1004]), (101,1,0,0,0,0,0,2,[]), (102,1,32,0,0,0,0,0,[]), (103,2,0,1,0,0,0,8,[]), (105,1,13,0,0,0,0,0,[]), (106,3,0,2,0,0,0,1000,[]), (109,1,12,0,0,0,0,0,[]), (110,1,2,1,0,0,0,0,[]), (111,3,35,0,10,0,14,0,[1004]), (114,2,0,3,0,0,61,41580,[1059]), (116,1,1,1,1,0,0,0,[]), (117,1,8,0,0,0,0,0,[]), (118,1,32,0,0,0,0,0,[]), (119,3,28,0,4,3,0,0,[]), (122,1,0,0,0,0,0,1,[]), (123,3,26,0,5,0,0,0,[])],
  [(126,1,0,0,0,0,0,0,[]), (127,0,27,0,5,0,0,0,[])],
  [(127,2,4,0,6,0,0,0,[]), (129,2,1,0,4,0,0,0,[]), (131,1,1,1,3,0,0,0,[]), (132,3,29,0,6,0,0,0,[]), (135,2,1,0,6,0,0,0,[]), (137,3,29,0,6,1,0,0,[]), (140,1,0,0,0,0,0,1,[]), (141,3,26,0,7,0,0,0,[])],
  [(144,1,0,0,0,0,0,0,[]), (145,0,27,0,7,0,0,0,[])],
  [(145,1,8,0,0,0,0,0,[]), (146,2,4,0,4,0,0,0,[]), (148,2,1,0,5,0,0,0,[]), (150,1,1,1,3,0,0,0,[]), (151,3,29,0,8,0,0,0,[]), (154,2,1,0,6,0,0,0,[]), (156,3,29,0,8,1,0,0,[]), (159,1,0,0,0,0,0,0,[]), (160,3,26,0,9,0,0,0,[])],
  [(163,1,0,0,0,0,0,1,[]), (164,0,27,0,9,0,0,0,[])],
  [(164,1,8,0,0,0,0,0,[]), (165,2,4,0,5,0,0,0,[]), (167,3,26,0,3,0,0,0,[])],
  [(170,2,1,0,4,0,0,0,[]), (172,1,2,1,0,0,0,0,[]), (173,3,35,0,10,0,14,0,[1004]), (176,1,0,0,0,0,0,4,[]), (177,1,32,0,0,0,0,0,[]), (178,3,28,0,11,1,0,0,[]), (181,1,0,0,0,0,0,1,[]), (182,3,26,0,12,0,0,0,[])],
  [(185,1,0,0,0,0,0,0,[]), (186,0,27,0,12,0,0,0,[])],
  [(186,1,46,0,1,0,0,0,[])]]
/-- MergeLineModel.isChange(I)Z -/
def cd_181 : List (List xI) := [[(0,1,1,1,1,0,0,0,[]), (1,1,16,0,0,0,0,0,[]), (2,1,18,0,0,0,0,0,[]), (3,1,2,1,0,0,0,0,[]), (4,3,35,0,10,0,14,0,[1004]), (7,2,0,1,0,0,0,7,[]), (9,1,32,0,0,0,0,0,[]), (10,1,0,0,0,0,0,1,[]), (11,1,9,0,0,0,0,0,[]), (12,1,16,0,0,0,0,0,[]), (13,3,42,0,164,3,37,0,[1031,1032]), (16,0,27,0,1,0,0,0,[])],
  [(16,1,46,0,1,0,0,0,[])]]
/-- MergeLineModel.newChange(I)I -/
def cd_182 : List (List xI) := [[(0,1,2,1,0,0,0,0,[]), (1,3,35,0,10,0,14,0,[1004]), (4,2,0,1,0,0,0,7,[]), (6,1,32,0,0,0,0,0,[]), (7,1,4,1,2,0,0,0,[]), (8,1,2,1,0,0,0,0,[]), (9,3,35,0,10,0,14,0,[1004]), (12,2,0,1,0,0,0,7,[]), (14,1,24,0,0,0,0,0,[]), (15,1,32,0,0,0,0,0,[]), (16,1,0,0,0,0,0,1,[]), (17,1,8,0,0,0,0,0,[]), (18,1,33,0,0,0,0,0,[]), (19,1,2,1,0,0,0,0,[]), (20,3,35,0,10,0,14,0,[1004]), (23,2,0,3,0,0,78,41604,[1097]), (25,1,1,1,2,0,0,0,[]), (26,1,8,0,0,0,0,0,[]), (27,1,1,1,1,0,0,0,[]), (28,1,33,0,0,0,0,0,[]), (29,1,2,1,0,0,0,0,[]), (30,3,35,0,10,0,14,0,[1004]), (33,2,0,3,0,0,79,41664,[1098]), (35,1,1,1,2,0,0,0,[]), (36,1,8,0,0,0,0,0,[]), (37,1,2,1,0,0,0,0,[]), (38,3,35,0,10,0,14,0,[1004]), (41,1,0,0,0,0,0,0,[]), (42,1,32,0,0,0,0,0,[]), (43,1,33,0,0,0,0,0,[]), (44,1,2,1,0,0,0,0,[]), (45,3,35,0,10,0,14,0,[1004]), (48,2,0,3,0,0,80,41724,[1099]), (50,1,1,1,2,0,0,0,[]), (51,1,8,0,0,0,0,0,[]), (52,1,0,0,0,0,0,0,[]), (53,1,33,0,0,0,0,0,[]), (54,1,2,1,0,0,0,0,[]), (55,3,35,0,10,0,14,0,[1004]), (58,2,0,3,0,0,81,41784,[1100]), (60,1,1,1,2,0,0,0,[]), (61,1,8,0,0,0,0,0,[]), (62,1,0,0,0,0,0,(-1),[]), (63,1,33,0,0,0,0,0,[]), (64,1,2,1,0,0,0,0,[]), (65,3,35,0,10,0,14,0,[1004]), (68,2,0,3,0,0,82,41844,[1101]), (70,1,1,1,2,0,0,0,[]), (71,1,8,0,0,0,0,0,[]), (72,1,0,0,0,0,0,(-1),[]), (73,1,33,0,0,0,0,0,[]), (74,1,2,1,0,0,0,0,[]), (75,3,35,0,10,0,14,0,[1004]), (78,2,0,3,0,0,83,41904,[1102]), (80,1,1,1,2,0,0,0,[]), (81,1,8,0,0,0,0,0,[]), (82,1,0,0,0,0,0,0,[]), (83,1,33,0,0,0,0,0,[]), (84,1,2,1,0,0,0,0,[]), (85,3,35,0,10,0,14,0,[1004]), (88,2,0,3,0,0,84,41964,[1103]), (90,1,1,1,2,0,0,0,[]), (91,1,8,0,0,0,0,0,[]), (92,1,0,0,0,0,0,(-1),[]), (93,1,33,0,0,0,0,0,[]), (94,1,2,1,0,0,0,0,[]), (95,3,35,0,10,0,14,0,[1004]), (98,2,0,3,0,0,85,42024,[1104]), (100,1,1,1,2,0,0,0,[]), (101,1,8,0,0,0,0,0,[]), (102,1,0,0,0,0,0,0,[]), (103,1,33,0,0,0,0,0,[]), (104,1,1,1,2,0,0,0,[]), (105,1,46,0,0,0,0,0,[])]]
/-- MergeLineModel.change(I)I -/
def cd_183 : List (List xI) := [[(0,1,2,1,0,0,0,0,[]), (1,1,0,0,0,0,0,0,[]), (2,3,36,0,10,3,1,0,[1007]), (5,1,1,1,1,0,0,0,[]), (6,1,16,0,0,0,0,0,[]), (7,1,18,0,0,0,0,0,[]), (8,3,18,1,0,0,86,3,[1092]), (11,3,42,0,164,3,37,0,[1031,1032]), (14,0,27,0,1,0,0,0,[])],
  [(14,3,29,0,2,1,0,0,[]), (17,2,0,1,0,0,0,(-2),[]), (19,3,26,0,4,0,0,0,[])],
  [(22,1,2,1,0,0,0,0,[]), (23,3,35,0,10,0,14,0,[1004]), (26,2,0,1,0,0,0,7,[]), (28,1,32,0,0,0,0,0,[]), (29,2,0,1,0,0,0,60,[]), (31,3,28,0,3,1,0,0,[]), (34,2,0,1,0,0,0,(-4),[]), (36,3,26,0,4,0,0,0,[])],
  [(39,1,2,1,0,0,0,0,[]), (40,1,1,1,1,0,0,0,[]), (41,3,40,10,182,2,88,0,[1093,1095,20]), (44,0,27,0,4,0,0,0,[])],
  [(44,1,46,0,0,0,0,0,[])]]
/-- MergeLineModel.hasFile(II)Z -/
def cd_184 : List (List xI) := [[(0,1,0,0,0,0,0,0,[]), (1,1,4,1,3,0,0,0,[]), (2,1,0,0,0,0,0,4,[]), (3,1,1,1,1,0,0,0,[]), (4,1,10,0,0,0,0,0,[]), (5,2,4,0,4,0,0,0,[]), (7,0,27,0,1,0,0,0,[])],
  [(7,2,1,0,4,0,0,0,[]), (9,1,0,0,0,0,0,4,[]), (10,1,1,1,1,0,0,0,[]), (11,1,10,0,0,0,0,0,[]), (12,1,2,1,0,0,0,0,[]), (13,3,35,0,10,0,14,0,[1004]), (16,2,0,3,0,0,83,41904,[1102]), (18,1,1,1,1,0,0,0,[]), (19,1,8,0,0,0,0,0,[]), (20,1,32,0,0,0,0,0,[]), (21,1,8,0,0,0,0,0,[]), (22,3,28,0,5,3,0,0,[]), (25,1,1,1,3,0,0,0,[]), (26,3,29,0,2,1,0,0,[]), (29,1,2,1,0,0,0,0,[]), (30,3,35,0,10,0,14,0,[1004]), (33,2,0,3,0,0,92,42084,[1118]), (35,2,1,0,4,0,0,0,[]), (37,1,8,0,0,0,0,0,[]), (38,1,32,0,0,0,0,0,[]), (39,1,1,1,2,0,0,0,[]), (40,3,28,0,3,1,0,0,[]), (43,0,27,0,2,0,0,0,[])],
  [(43,1,0,0,0,0,0,1,[]), (44,3,26,0,4,0,0,0,[])],
  [(47,1,0,0,0,0,0,0,[]), (48,0,27,0,4,0,0,0,[])],
  [(48,1,4,1,3,0,0,0,[]), (49,3,7,0,4,0,0,1,[]), (52,3,26,0,1,0,0,0,[])],
  [(55,1,1,1,3,0,0,0,[]), (56,1,46,0,1,0,0,0,[])]]
/-- MergeLineModel.markAt(II)I -/
def cd_185 : List (List xI) := [[(0,1,1,1,2,0,0,0,[]), (1,1,16,0,0,0,0,0,[]), (2,1,18,0,0,0,0,0,[]), (3,1,2,1,0,0,0,0,[]), (4,1,2,1,0,0,0,0,[]), (5,3,35,0,10,0,14,0,[1004]), (8,1,0,0,0,0,0,0,[]), (9,1,32,0,0,0,0,0,[]), (10,1,1,1,1,0,0,0,[]), (11,3,40,10,166,3,27,0,[1035,1037,16]), (14,0,27,0,1,0,0,0,[])],
  [(14,1,0,0,0,0,0,1,[]), (15,1,9,0,0,0,0,0,[]), (16,1,16,0,0,0,0,0,[]), (17,3,42,0,164,3,37,0,[1031,1032]), (20,0,27,0,2,0,0,0,[])],
  [(20,3,29,0,4,0,0,0,[]), (23,1,2,1,0,0,0,0,[]), (24,3,35,0,10,0,14,0,[1004]), (27,3,0,2,0,0,0,21004,[]), (30,1,2,1,0,0,0,0,[]), (31,3,35,0,10,0,14,0,[1004]), (34,1,0,0,0,0,0,0,[]), (35,1,32,0,0,0,0,0,[]), (36,1,1,1,1,0,0,0,[]), (37,1,1,1,2,0,0,0,[]), (38,3,42,0,167,3,31,0,[1039,1040]), (41,0,27,0,3,0,0,0,[])],
  [(41,1,8,0,0,0,0,0,[]), (42,1,32,0,0,0,0,0,[]), (43,3,26,0,5,0,0,0,[])],
  [(46,1,0,0,0,0,0,0,[]), (47,0,27,0,5,0,0,0,[])],
  [(47,1,46,0,0,0,0,0,[])]]
/-- MergeLineModel.edit(IIIIII)I -/
def cd_186 : List (List xI) := [[(0,1,2,1,0,0,0,0,[]), (1,1,0,0,0,0,0,0,[]), (2,3,36,0,10,3,1,0,[1007]), (5,1,2,1,0,0,0,0,[]), (6,1,1,1,1,0,0,0,[]), (7,3,40,10,181,2,93,0,[1109,1111,21]), (10,0,27,0,1,0,0,0,[])],
  [(10,3,29,0,6,0,0,0,[]), (13,1,1,1,2,0,0,0,[]), (14,3,42,0,169,1,41,0,[1027,1028]), (17,0,27,0,2,0,0,0,[])],
  [(17,3,29,0,6,0,0,0,[]), (20,2,1,0,4,0,0,0,[]), (22,1,16,0,0,0,0,0,[]), (23,1,18,0,0,0,0,0,[]), (24,3,18,1,0,0,96,6,[1113]), (27,3,42,0,164,3,37,0,[1031,1032]), (30,0,27,0,3,0,0,0,[])],
  [(30,3,29,0,6,0,0,0,[]), (33,2,1,0,5,0,0,0,[]), (35,1,16,0,0,0,0,0,[]), (36,1,18,0,0,0,0,0,[]), (37,3,18,1,0,0,47,4,[1050]), (40,3,42,0,164,3,37,0,[1031,1032]), (43,0,27,0,4,0,0,0,[])],
  [(43,3,29,0,6,0,0,0,[]), (46,2,1,0,6,0,0,0,[]), (48,1,16,0,0,0,0,0,[]), (49,1,18,0,0,0,0,0,[]), (50,3,0,2,0,0,0,9999,[]), (53,2,1,0,5,0,0,0,[]), (55,1,9,0,0,0,0,0,[]), (56,1,16,0,0,0,0,0,[]), (57,3,42,0,164,3,37,0,[1031,1032]), (60,0,27,0,5,0,0,0,[])],
  [(60,3,29,0,6,0,0,0,[]), (63,2,1,0,4,0,0,0,[]), (65,2,1,0,5,0,0,0,[]), (67,1,8,0,0,0,0,0,[]), (68,3,29,0,7,1,0,0,[]), (71,0,27,0,6,0,0,0,[])],
  [(71,2,0,1,0,0,0,(-2),[]), (73,1,46,0,0,0,0,0,[])],
  [(74,1,2,1,0,0,0,0,[]), (75,3,35,0,10,0,14,0,[1004]), (78,1,0,0,0,0,0,0,[]), (79,1,32,0,0,0,0,0,[]), (80,2,4,0,7,0,0,0,[]), (82,1,2,1,0,0,0,0,[]), (83,2,1,0,7,0,0,0,[]), (85,1,1,1,2,0,0,0,[]), (86,3,40,10,166,3,27,0,[1035,1037,16]), (89,0,27,0,8,0,0,0,[])],
  [(89,2,4,0,8,0,0,0,[]), (91,1,1,1,3,0,0,0,[]), (92,1,16,0,0,0,0,0,[]), (93,1,18,0,0,0,0,0,[]), (94,2,1,0,8,0,0,0,[]), (96,2,1,0,4,0,0,0,[]), (98,1,9,0,0,0,0,0,[]), (99,1,16,0,0,0,0,0,[]), (100,3,42,0,164,3,37,0,[1031,1032]), (103,0,27,0,9,0,0,0,[])],
  [(103,3,29,0,10,1,0,0,[]), (106,2,0,1,0,0,0,(-2),[]), (108,1,46,0,0,0,0,0,[])],
  [(109,1,2,1,0,0,0,0,[]), (110,3,35,0,10,0,14,0,[1004]), (113,2,0,3,0,0,80,41724,[1099]), (115,1,1,1,1,0,0,0,[]), (116,1,8,0,0,0,0,0,[]), (117,1,32,0,0,0,0,0,[]), (118,3,29,0,12,1,0,0,[]), (121,1,2,1,0,0,0,0,[]), (122,3,35,0,10,0,14,0,[1004]), (125,2,0,3,0,0,79,41664,[1098]), (127,1,1,1,1,0,0,0,[]), (128,1,8,0,0,0,0,0,[]), (129,1,32,0,0,0,0,0,[]), (130,2,1,0,7,0,0,0,[]), (132,3,28,0,12,1,0,0,[]), (135,1,2,1,0,0,0,0,[]), (136,1,1,1,1,0,0,0,[]), (137,1,1,1,2,0,0,0,[]), (138,3,40,10,184,3,98,0,[1114,1116,22]), (141,0,27,0,11,0,0,0,[])],
  [(141,3,29,0,12,1,0,0,[]), (144,1,2,1,0,0,0,0,[]), (145,3,35,0,10,0,14,0,[1004]), (148,2,0,3,0,0,78,41604,[1097]), (150,1,1,1,1,0,0,0,[]), (151,1,8,0,0,0,0,0,[]), (152,1,32,0,0,0,0,0,[]), (153,1,0,0,0,0,0,4,[]), (154,3,28,0,13,1,0,0,[]), (157,0,27,0,12,0,0,0,[])],
  [(157,2,0,1,0,0,0,(-3),[]), (159,1,46,0,0,0,0,0,[])],
  [(160,1,2,1,0,0,0,0,[]), (161,3,35,0,10,0,14,0,[1004]), (164,2,0,3,0,0,83,41904,[1102]), (166,1,1,1,1,0,0,0,[]), (167,1,8,0,0,0,0,0,[]), (168,1,32,0,0,0,0,0,[]), (169,1,0,0,0,0,0,4,[]), (170,3,28,0,14,0,0,0,[]), (173,2,1,0,8,0,0,0,[]), (175,2,1,0,4,0,0,0,[]), (177,1,9,0,0,0,0,0,[]), (178,2,1,0,5,0,0,0,[]), (180,1,8,0,0,0,0,0,[]), (181,2,0,1,0,0,0,24,[]), (183,3,28,0,15,5,0,0,[]), (186,0,27,0,14,0,0,0,[])],
  [(186,2,0,1,0,0,0,(-4),[]), (188,1,46,0,0,0,0,0,[])],
  [(189,1,0,0,0,0,0,4,[]), (190,1,1,1,1,0,0,0,[]), (191,1,10,0,0,0,0,0,[]), (192,1,2,1,0,0,0,0,[]), (193,3,35,0,10,0,14,0,[1004]), (196,2,0,3,0,0,83,41904,[1102]), (198,1,1,1,1,0,0,0,[]), (199,1,8,0,0,0,0,0,[]), (200,1,32,0,0,0,0,0,[]), (201,1,8,0,0,0,0,0,[]), (202,2,4,0,9,0,0,0,[]), (204,1,2,1,0,0,0,0,[]), (205,3,35,0,10,0,14,0,[1004]), (208,2,0,3,0,0,83,41904,[1102]), (210,1,1,1,1,0,0,0,[]), (211,1,8,0,0,0,0,0,[]), (212,1,24,0,0,0,0,0,[]), (213,1,32,0,0,0,0,0,[]), (214,1,0,0,0,0,0,1,[]), (215,1,8,0,0,0,0,0,[]), (216,1,33,0,0,0,0,0,[]), (217,1,2,1,0,0,0,0,[]), (218,3,35,0,10,0,14,0,[1004]), (221,2,0,3,0,0,92,42084,[1118]), (223,2,1,0,9,0,0,0,[]), (225,1,8,0,0,0,0,0,[]), (226,1,1,1,2,0,0,0,[]), (227,1,33,0,0,0,0,0,[]), (228,1,2,1,0,0,0,0,[]), (229,3,35,0,10,0,14,0,[1004]), (232,2,0,3,0,0,101,42324,[1119]), (234,2,1,0,9,0,0,0,[]), (236,1,8,0,0,0,0,0,[]), (237,2,1,0,4,0,0,0,[]), (239,1,33,0,0,0,0,0,[]), (240,1,2,1,0,0,0,0,[]), (241,3,35,0,10,0,14,0,[1004]), (244,2,0,3,0,0,102,42564,[1120]), (246,2,1,0,9,0,0,0,[]), (248,1,8,0,0,0,0,0,[]), (249,2,1,0,5,0,0,0,[]), (251,1,33,0,0,0,0,0,[]), (252,1,2,1,0,0,0,0,[]), (253,3,35,0,10,0,14,0,[1004]), (256,2,0,3,0,0,103,42804,[1121]), (258,2,1,0,9,0,0,0,[]), (260,1,8,0,0,0,0,0,[]), (261,1,2,1,0,0,0,0,[]), (262,1,1,1,2,0,0,0,[]), (263,1,1,1,3,0,0,0,[]), (264,1,0,0,0,0,0,1,[]), (265,1,9,0,0,0,0,0,[]), (266,3,40,10,185,3,104,0,[1122,1124,23]), (269,0,27,0,16,0,0,0,[])],
  [(269,1,33,0,0,0,0,0,[]), (270,1,2,1,0,0,0,0,[]), (271,3,35,0,10,0,14,0,[1004]), (274,2,0,3,0,0,107,43044,[1126]), (276,2,1,0,9,0,0,0,[]), (278,1,8,0,0,0,0,0,[]), (279,1,2,1,0,0,0,0,[]), (280,1,1,1,2,0,0,0,[]), (281,1,1,1,3,0,0,0,[]), (282,2,1,0,4,0,0,0,[]), (284,1,8,0,0,0,0,0,[]), (285,3,40,10,185,3,104,0,[1122,1124,23]), (288,0,27,0,17,0,0,0,[])],
  [(288,1,33,0,0,0,0,0,[]), (289,1,0,0,0,0,0,0,[]), (290,2,4,0,10,0,0,0,[]), (292,0,27,0,18,0,0,0,[])],
  [(292,2,1,0,10,0,0,0,[]), (294,2,1,0,4,0,0,0,[]), (296,3,28,0,21,3,0,0,[]), (299,1,2,1,0,0,0,0,[]), (300,3,35,0,10,0,14,0,[1004]), (303,2,0,3,0,0,108,43284,[1127]), (305,2,0,1,0,0,0,6,[]), (307,2,1,0,9,0,0,0,[]), (309,1,10,0,0,0,0,0,[]), (310,1,8,0,0,0,0,0,[]), (311,2,1,0,10,0,0,0,[]), (313,1,8,0,0,0,0,0,[]), (314,1,2,1,0,0,0,0,[]), (315,3,35,0,10,0,14,0,[1004]), (318,3,0,2,0,0,0,21004,[]), (321,2,1,0,7,0,0,0,[]), (323,1,1,1,2,0,0,0,[]), (324,1,1,1,3,0,0,0,[]), (325,2,1,0,10,0,0,0,[]), (327,1,8,0,0,0,0,0,[]), (328,3,42,0,167,3,31,0,[1039,1040]), (331,0,27,0,19,0,0,0,[])],
  [(331,1,8,0,0,0,0,0,[]), (332,1,32,0,0,0,0,0,[]), (333,1,33,0,0,0,0,0,[]), (334,1,2,1,0,0,0,0,[]), (335,3,35,0,10,0,14,0,[1004]), (338,2,0,3,0,0,109,44724,[1128]), (340,2,0,1,0,0,0,6,[]), (342,2,1,0,9,0,0,0,[]), (344,1,10,0,0,0,0,0,[]), (345,1,8,0,0,0,0,0,[]), (346,2,1,0,10,0,0,0,[]), (348,1,8,0,0,0,0,0,[]), (349,1,2,1,0,0,0,0,[]), (350,3,35,0,10,0,14,0,[1004]), (353,3,0,2,0,0,0,524,[]), (356,2,1,0,7,0,0,0,[]), (358,1,1,1,2,0,0,0,[]), (359,1,1,1,3,0,0,0,[]), (360,2,1,0,10,0,0,0,[]), (362,1,8,0,0,0,0,0,[]), (363,3,42,0,167,3,31,0,[1039,1040]), (366,0,27,0,20,0,0,0,[])],
  [(366,1,8,0,0,0,0,0,[]), (367,1,32,0,0,0,0,0,[]), (368,1,33,0,0,0,0,0,[]), (369,3,7,0,10,0,0,1,[]), (372,3,26,0,18,0,0,0,[])],
  [(375,1,0,0,0,0,0,0,[]), (376,2,4,0,10,0,0,0,[]), (378,0,27,0,22,0,0,0,[])],
  [(378,2,1,0,10,0,0,0,[]), (380,2,1,0,5,0,0,0,[]), (382,3,28,0,23,3,0,0,[]), (385,1,2,1,0,0,0,0,[]), (386,3,35,0,10,0,14,0,[1004]), (389,1,0,0,0,0,0,1,[]), (390,1,24,0,0,0,0,0,[]), (391,1,32,0,0,0,0,0,[]), (392,1,0,0,0,0,0,1,[]), (393,1,8,0,0,0,0,0,[]), (394,1,33,0,0,0,0,0,[]), (395,1,2,1,0,0,0,0,[]), (396,3,35,0,10,0,14,0,[1004]), (399,2,0,3,0,0,110,46164,[1129]), (401,2,0,1,0,0,0,6,[]), (403,2,1,0,9,0,0,0,[]), (405,1,10,0,0,0,0,0,[]), (406,1,8,0,0,0,0,0,[]), (407,2,1,0,10,0,0,0,[]), (409,1,8,0,0,0,0,0,[]), (410,1,2,1,0,0,0,0,[]), (411,3,35,0,10,0,14,0,[1004]), (414,1,0,0,0,0,0,1,[]), (415,1,32,0,0,0,0,0,[]), (416,1,33,0,0,0,0,0,[]), (417,1,2,1,0,0,0,0,[]), (418,3,35,0,10,0,14,0,[1004]), (421,2,0,3,0,0,111,47604,[1130]), (423,2,0,1,0,0,0,6,[]), (425,2,1,0,9,0,0,0,[]), (427,1,10,0,0,0,0,0,[]), (428,1,8,0,0,0,0,0,[]), (429,2,1,0,10,0,0,0,[]), (431,1,8,0,0,0,0,0,[]), (432,2,1,0,6,0,0,0,[]), (434,2,1,0,10,0,0,0,[]), (436,1,8,0,0,0,0,0,[]), (437,1,33,0,0,0,0,0,[]), (438,3,7,0,10,0,0,1,[]), (441,3,26,0,22,0,0,0,[])],
  [(444,1,2,1,0,0,0,0,[]), (445,3,35,0,10,0,14,0,[1004]), (448,2,0,3,0,0,83,41904,[1102]), (450,1,1,1,1,0,0,0,[]), (451,1,8,0,0,0,0,0,[]), (452,1,32,0,0,0,0,0,[]), (453,1,46,0,0,0,0,0,[])]]
/-- MergeLineModel.fitsAt(IIZ)I -/
def cd_187 : List (List xI) := [[(0,1,2,1,0,0,0,0,[]), (1,3,35,0,10,0,14,0,[1004]), (4,2,0,3,0,0,92,42084,[1118]), (6,1,1,1,1,0,0,0,[]), (7,1,8,0,0,0,0,0,[]), (8,1,32,0,0,0,0,0,[]), (9,2,4,0,4,0,0,0,[]), (11,1,2,1,0,0,0,0,[]), (12,1,1,1,2,0,0,0,[]), (13,2,1,0,4,0,0,0,[]), (15,3,40,10,166,3,27,0,[1035,1037,16]), (18,0,27,0,1,0,0,0,[])],
  [(18,2,4,0,5,0,0,0,[]), (20,1,1,1,3,0,0,0,[]), (21,3,29,0,2,0,0,0,[]), (24,1,2,1,0,0,0,0,[]), (25,3,35,0,10,0,14,0,[1004]), (28,2,0,3,0,0,102,42564,[1120]), (30,1,1,1,1,0,0,0,[]), (31,1,8,0,0,0,0,0,[]), (32,1,32,0,0,0,0,0,[]), (33,3,26,0,3,0,0,0,[])],
  [(36,1,2,1,0,0,0,0,[]), (37,3,35,0,10,0,14,0,[1004]), (40,2,0,3,0,0,101,42324,[1119]), (42,1,1,1,1,0,0,0,[]), (43,1,8,0,0,0,0,0,[]), (44,1,32,0,0,0,0,0,[]), (45,0,27,0,3,0,0,0,[])],
  [(45,2,4,0,6,0,0,0,[]), (47,1,1,1,3,0,0,0,[]), (48,3,29,0,4,0,0,0,[]), (51,1,2,1,0,0,0,0,[]), (52,3,35,0,10,0,14,0,[1004]), (55,2,0,3,0,0,101,42324,[1119]), (57,1,1,1,1,0,0,0,[]), (58,1,8,0,0,0,0,0,[]), (59,1,32,0,0,0,0,0,[]), (60,3,26,0,5,0,0,0,[])],
  [(63,1,2,1,0,0,0,0,[]), (64,3,35,0,10,0,14,0,[1004]), (67,2,0,3,0,0,102,42564,[1120]), (69,1,1,1,1,0,0,0,[]), (70,1,8,0,0,0,0,0,[]), (71,1,32,0,0,0,0,0,[]), (72,0,27,0,5,0,0,0,[])],
  [(72,2,4,0,7,0,0,0,[]), (74,1,1,1,3,0,0,0,[]), (75,3,29,0,6,0,0,0,[]), (78,2,0,3,0,0,110,46164,[1129]), (80,3,26,0,7,0,0,0,[])],
  [(83,2,0,3,0,0,108,43284,[1127]), (85,0,27,0,7,0,0,0,[])],
  [(85,2,4,0,8,0,0,0,[]), (87,1,0,0,0,0,0,0,[]), (88,2,4,0,9,0,0,0,[]), (90,1,2,1,0,0,0,0,[]), (91,3,35,0,10,0,14,0,[1004]), (94,2,0,3,0,0,103,42804,[1121]), (96,1,1,1,1,0,0,0,[]), (97,1,8,0,0,0,0,0,[]), (98,1,32,0,0,0,0,0,[]), (99,3,29,0,11,0,0,0,[]), (102,0,27,0,8,0,0,0,[])],
  [(102,2,1,0,9,0,0,0,[]), (104,2,1,0,5,0,0,0,[]), (106,3,28,0,10,3,0,0,[]), (109,1,2,1,0,0,0,0,[]), (110,3,35,0,10,0,14,0,[1004]), (113,3,0,2,0,0,0,21004,[]), (116,1,1,1,2,0,0,0,[]), (117,2,1,0,4,0,0,0,[]), (119,2,1,0,9,0,0,0,[]), (121,3,42,0,167,3,31,0,[1039,1040]), (124,0,27,0,9,0,0,0,[])],
  [(124,1,8,0,0,0,0,0,[]), (125,1,32,0,0,0,0,0,[]), (126,1,2,1,0,0,0,0,[]), (127,3,35,0,10,0,14,0,[1004]), (130,2,0,3,0,0,103,42804,[1121]), (132,1,1,1,1,0,0,0,[]), (133,1,8,0,0,0,0,0,[]), (134,1,32,0,0,0,0,0,[]), (135,3,28,0,10,0,0,0,[]), (138,3,7,0,9,0,0,1,[]), (141,3,26,0,8,0,0,0,[])],
  [(144,3,7,0,9,0,0,1,[]), (147,0,27,0,11,0,0,0,[])],
  [(147,2,1,0,9,0,0,0,[]), (149,2,1,0,6,0,0,0,[]), (151,1,8,0,0,0,0,0,[]), (152,2,1,0,5,0,0,0,[]), (154,3,28,0,12,4,0,0,[]), (157,2,1,0,5,0,0,0,[]), (159,2,1,0,6,0,0,0,[]), (161,1,9,0,0,0,0,0,[]), (162,2,1,0,7,0,0,0,[]), (164,1,8,0,0,0,0,0,[]), (165,2,0,1,0,0,0,24,[]), (167,3,28,0,13,5,0,0,[]), (170,0,27,0,12,0,0,0,[])],
  [(170,1,0,0,0,0,0,(-1),[]), (171,1,46,0,0,0,0,0,[])],
  [(172,1,0,0,0,0,0,0,[]), (173,2,4,0,10,0,0,0,[]), (175,0,27,0,14,0,0,0,[])],
  [(175,2,1,0,10,0,0,0,[]), (177,2,1,0,6,0,0,0,[]), (179,3,28,0,17,3,0,0,[]), (182,1,2,1,0,0,0,0,[]), (183,3,35,0,10,0,14,0,[1004]), (186,3,0,2,0,0,0,21004,[]), (189,1,1,1,2,0,0,0,[]), (190,2,1,0,4,0,0,0,[]), (192,2,1,0,9,0,0,0,[]), (194,2,1,0,10,0,0,0,[]), (196,1,8,0,0,0,0,0,[]), (197,3,42,0,167,3,31,0,[1039,1040]), (200,0,27,0,15,0,0,0,[])],
  [(200,1,8,0,0,0,0,0,[]), (201,1,32,0,0,0,0,0,[]), (202,1,2,1,0,0,0,0,[]), (203,3,35,0,10,0,14,0,[1004]), (206,2,1,0,8,0,0,0,[]), (208,2,0,1,0,0,0,6,[]), (210,1,1,1,1,0,0,0,[]), (211,1,10,0,0,0,0,0,[]), (212,1,8,0,0,0,0,0,[]), (213,2,1,0,10,0,0,0,[]), (215,1,8,0,0,0,0,0,[]), (216,1,32,0,0,0,0,0,[]), (217,3,28,0,16,0,0,0,[]), (220,1,0,0,0,0,0,(-1),[]), (221,1,46,0,0,0,0,0,[])],
  [(222,3,7,0,10,0,0,1,[]), (225,3,26,0,14,0,0,0,[])],
  [(228,2,1,0,9,0,0,0,[]), (230,2,1,0,6,0,0,0,[]), (232,1,8,0,0,0,0,0,[]), (233,2,1,0,5,0,0,0,[]), (235,3,28,0,19,3,0,0,[]), (238,1,2,1,0,0,0,0,[]), (239,3,35,0,10,0,14,0,[1004]), (242,3,0,2,0,0,0,21004,[]), (245,1,1,1,2,0,0,0,[]), (246,2,1,0,4,0,0,0,[]), (248,2,1,0,9,0,0,0,[]), (250,2,1,0,6,0,0,0,[]), (252,1,8,0,0,0,0,0,[]), (253,3,42,0,167,3,31,0,[1039,1040]), (256,0,27,0,18,0,0,0,[])],
  [(256,1,8,0,0,0,0,0,[]), (257,1,32,0,0,0,0,0,[]), (258,3,26,0,20,0,0,0,[])],
  [(261,1,0,0,0,0,0,0,[]), (262,0,27,0,20,0,0,0,[])],
  [(262,2,4,0,10,0,0,0,[]), (264,2,1,0,10,0,0,0,[]), (266,1,2,1,0,0,0,0,[]), (267,3,35,0,10,0,14,0,[1004]), (270,2,0,3,0,0,107,43044,[1126]), (272,1,1,1,1,0,0,0,[]), (273,1,8,0,0,0,0,0,[]), (274,1,32,0,0,0,0,0,[]), (275,3,28,0,21,1,0,0,[]), (278,2,1,0,9,0,0,0,[]), (280,3,26,0,22,0,0,0,[])],
  [(283,1,0,0,0,0,0,(-1),[]), (284,0,27,0,22,0,0,0,[])],
  [(284,1,46,0,0,0,0,0,[])]]
/-- MergeLineModel.fitsIn(II)Z -/
def cd_188 : List (List xI) := [[(0,1,0,0,0,0,0,1,[]), (1,1,4,1,3,0,0,0,[]), (2,1,0,0,0,0,0,4,[]), (3,1,1,1,1,0,0,0,[]), (4,1,10,0,0,0,0,0,[]), (5,2,4,0,4,0,0,0,[]), (7,0,27,0,1,0,0,0,[])],
  [(7,2,1,0,4,0,0,0,[]), (9,1,0,0,0,0,0,4,[]), (10,1,1,1,1,0,0,0,[]), (11,1,10,0,0,0,0,0,[]), (12,1,2,1,0,0,0,0,[]), (13,3,35,0,10,0,14,0,[1004]), (16,2,0,3,0,0,83,41904,[1102]), (18,1,1,1,1,0,0,0,[]), (19,1,8,0,0,0,0,0,[]), (20,1,32,0,0,0,0,0,[]), (21,1,8,0,0,0,0,0,[]), (22,3,28,0,5,3,0,0,[]), (25,1,1,1,3,0,0,0,[]), (26,3,29,0,3,0,0,0,[]), (29,1,2,1,0,0,0,0,[]), (30,2,1,0,4,0,0,0,[]), (32,1,1,1,2,0,0,0,[]), (33,1,0,0,0,0,0,0,[]), (34,3,40,10,187,4,112,0,[1135,1137,24]), (37,0,27,0,2,0,0,0,[])],
  [(37,1,0,0,0,0,0,(-1),[]), (38,3,28,0,3,0,0,0,[]), (41,1,0,0,0,0,0,1,[]), (42,3,26,0,4,0,0,0,[])],
  [(45,1,0,0,0,0,0,0,[]), (46,0,27,0,4,0,0,0,[])],
  [(46,1,4,1,3,0,0,0,[]), (47,3,7,0,4,0,0,1,[]), (50,3,26,0,1,0,0,0,[])],
  [(53,1,1,1,3,0,0,0,[]), (54,1,46,0,1,0,0,0,[])]]
/-- MergeLineModel.apply(II)V -/
def cd_189 : List (List xI) := [[(0,1,2,1,0,0,0,0,[]), (1,3,35,0,10,0,14,0,[1004]), (4,2,0,3,0,0,92,42084,[1118]), (6,1,1,1,1,0,0,0,[]), (7,1,8,0,0,0,0,0,[]), (8,1,32,0,0,0,0,0,[]), (9,1,4,1,3,0,0,0,[]), (10,1,2,1,0,0,0,0,[]), (11,1,1,1,1,0,0,0,[]), (12,1,1,1,2,0,0,0,[]), (13,1,0,0,0,0,0,0,[]), (14,3,40,10,187,4,112,0,[1135,1137,24]), (17,0,27,0,1,0,0,0,[])],
  [(17,2,4,0,4,0,0,0,[]), (19,1,2,1,0,0,0,0,[]), (20,1,1,1,2,0,0,0,[]), (21,1,1,1,3,0,0,0,[]), (22,3,40,10,166,3,27,0,[1035,1037,16]), (25,0,27,0,2,0,0,0,[])],
  [(25,2,4,0,5,0,0,0,[]), (27,1,2,1,0,0,0,0,[]), (28,3,35,0,10,0,14,0,[1004]), (31,2,0,3,0,0,101,42324,[1119]), (33,1,1,1,1,0,0,0,[]), (34,1,8,0,0,0,0,0,[]), (35,1,32,0,0,0,0,0,[]), (36,2,4,0,6,0,0,0,[]), (38,1,2,1,0,0,0,0,[]), (39,3,35,0,10,0,14,0,[1004]), (42,2,0,3,0,0,102,42564,[1120]), (44,1,1,1,1,0,0,0,[]), (45,1,8,0,0,0,0,0,[]), (46,1,32,0,0,0,0,0,[]), (47,2,1,0,6,0,0,0,[]), (49,1,9,0,0,0,0,0,[]), (50,2,4,0,7,0,0,0,[]), (52,2,1,0,7,0,0,0,[]), (54,3,29,0,6,5,0,0,[]), (57,2,1,0,5,0,0,0,[]), (59,1,0,0,0,0,0,1,[]), (60,1,9,0,0,0,0,0,[]), (61,2,4,0,8,0,0,0,[]), (63,0,27,0,3,0,0,0,[])],
  [(63,2,1,0,8,0,0,0,[]), (65,2,1,0,4,0,0,0,[]), (67,2,1,0,6,0,0,0,[]), (69,1,8,0,0,0,0,0,[]), (70,3,28,0,5,2,0,0,[]), (73,1,2,1,0,0,0,0,[]), (74,1,1,1,2,0,0,0,[]), (75,1,1,1,3,0,0,0,[]), (76,2,1,0,8,0,0,0,[]), (78,2,1,0,8,0,0,0,[]), (80,2,1,0,7,0,0,0,[]), (82,1,8,0,0,0,0,0,[]), (83,3,41,10,190,5,116,0,[1242,1244,42]), (86,0,27,0,4,0,0,0,[])],
  [(86,3,7,0,8,0,0,(-1),[]), (89,3,26,0,3,0,0,0,[])],
  [(92,3,26,0,9,0,0,0,[])],
  [(95,2,1,0,4,0,0,0,[]), (97,2,1,0,6,0,0,0,[]), (99,1,8,0,0,0,0,0,[]), (100,2,4,0,8,0,0,0,[]), (102,0,27,0,7,0,0,0,[])],
  [(102,2,1,0,8,0,0,0,[]), (104,2,1,0,5,0,0,0,[]), (106,3,28,0,9,3,0,0,[]), (109,1,2,1,0,0,0,0,[]), (110,1,1,1,2,0,0,0,[]), (111,1,1,1,3,0,0,0,[]), (112,2,1,0,8,0,0,0,[]), (114,2,1,0,8,0,0,0,[]), (116,2,1,0,7,0,0,0,[]), (118,1,8,0,0,0,0,0,[]), (119,3,41,10,190,5,116,0,[1242,1244,42]), (122,0,27,0,8,0,0,0,[])],
  [(122,3,7,0,8,0,0,1,[]), (125,3,26,0,7,0,0,0,[])],
  [(128,1,0,0,0,0,0,0,[]), (129,2,4,0,8,0,0,0,[]), (131,0,27,0,10,0,0,0,[])],
  [(131,2,1,0,8,0,0,0,[]), (133,1,2,1,0,0,0,0,[]), (134,3,35,0,10,0,14,0,[1004]), (137,2,0,3,0,0,102,42564,[1120]), (139,1,1,1,1,0,0,0,[]), (140,1,8,0,0,0,0,0,[]), (141,1,32,0,0,0,0,0,[]), (142,3,28,0,13,3,0,0,[]), (145,1,2,1,0,0,0,0,[]), (146,3,35,0,10,0,14,0,[1004]), (149,3,0,2,0,0,0,21004,[]), (152,1,1,1,2,0,0,0,[]), (153,1,1,1,3,0,0,0,[]), (154,2,1,0,4,0,0,0,[]), (156,2,1,0,8,0,0,0,[]), (158,1,8,0,0,0,0,0,[]), (159,3,42,0,167,3,31,0,[1039,1040]), (162,0,27,0,11,0,0,0,[])],
  [(162,1,8,0,0,0,0,0,[]), (163,1,2,1,0,0,0,0,[]), (164,3,35,0,10,0,14,0,[1004]), (167,2,0,3,0,0,110,46164,[1129]), (169,2,0,1,0,0,0,6,[]), (171,1,1,1,1,0,0,0,[]), (172,1,10,0,0,0,0,0,[]), (173,1,8,0,0,0,0,0,[]), (174,2,1,0,8,0,0,0,[]), (176,1,8,0,0,0,0,0,[]), (177,1,32,0,0,0,0,0,[]), (178,1,33,0,0,0,0,0,[]), (179,1,2,1,0,0,0,0,[]), (180,3,35,0,10,0,14,0,[1004]), (183,3,0,2,0,0,0,524,[]), (186,1,1,1,2,0,0,0,[]), (187,1,1,1,3,0,0,0,[]), (188,2,1,0,4,0,0,0,[]), (190,2,1,0,8,0,0,0,[]), (192,1,8,0,0,0,0,0,[]), (193,3,42,0,167,3,31,0,[1039,1040]), (196,0,27,0,12,0,0,0,[])],
  [(196,1,8,0,0,0,0,0,[]), (197,1,2,1,0,0,0,0,[]), (198,3,35,0,10,0,14,0,[1004]), (201,2,0,3,0,0,111,47604,[1130]), (203,2,0,1,0,0,0,6,[]), (205,1,1,1,1,0,0,0,[]), (206,1,10,0,0,0,0,0,[]), (207,1,8,0,0,0,0,0,[]), (208,2,1,0,8,0,0,0,[]), (210,1,8,0,0,0,0,0,[]), (211,1,32,0,0,0,0,0,[]), (212,1,33,0,0,0,0,0,[]), (213,3,7,0,8,0,0,1,[]), (216,3,26,0,10,0,0,0,[])],
  [(219,1,2,1,0,0,0,0,[]), (220,3,35,0,10,0,14,0,[1004]), (223,2,0,1,0,0,0,12,[]), (225,2,0,1,0,0,0,8,[]), (227,1,1,1,2,0,0,0,[]), (228,1,10,0,0,0,0,0,[]), (229,1,8,0,0,0,0,0,[]), (230,1,1,1,3,0,0,0,[]), (231,1,8,0,0,0,0,0,[]), (232,2,1,0,5,0,0,0,[]), (234,2,1,0,7,0,0,0,[]), (236,1,8,0,0,0,0,0,[]), (237,1,33,0,0,0,0,0,[]), (238,1,47,0,0,0,0,0,[])]]
/-- MergeLineModel.moveLine(IIII)V -/
def cd_190 : List (List xI) := [[(0,1,2,1,0,0,0,0,[]), (1,3,35,0,10,0,14,0,[1004]), (4,3,0,2,0,0,0,21004,[]), (7,1,1,1,1,0,0,0,[]), (8,1,1,1,2,0,0,0,[]), (9,2,1,0,4,0,0,0,[]), (11,3,42,0,167,3,31,0,[1039,1040]), (14,0,27,0,1,0,0,0,[])],
  [(14,1,8,0,0,0,0,0,[]), (15,1,2,1,0,0,0,0,[]), (16,3,35,0,10,0,14,0,[1004]), (19,3,0,2,0,0,0,21004,[]), (22,1,1,1,1,0,0,0,[]), (23,1,1,1,2,0,0,0,[]), (24,1,1,1,3,0,0,0,[]), (25,3,42,0,167,3,31,0,[1039,1040]), (28,0,27,0,2,0,0,0,[])],
  [(28,1,8,0,0,0,0,0,[]), (29,1,32,0,0,0,0,0,[]), (30,1,33,0,0,0,0,0,[]), (31,1,2,1,0,0,0,0,[]), (32,3,35,0,10,0,14,0,[1004]), (35,3,0,2,0,0,0,524,[]), (38,1,1,1,1,0,0,0,[]), (39,1,1,1,2,0,0,0,[]), (40,2,1,0,4,0,0,0,[]), (42,3,42,0,167,3,31,0,[1039,1040]), (45,0,27,0,3,0,0,0,[])],
  [(45,1,8,0,0,0,0,0,[]), (46,1,2,1,0,0,0,0,[]), (47,3,35,0,10,0,14,0,[1004]), (50,3,0,2,0,0,0,524,[]), (53,1,1,1,1,0,0,0,[]), (54,1,1,1,2,0,0,0,[]), (55,1,1,1,3,0,0,0,[]), (56,3,42,0,167,3,31,0,[1039,1040]), (59,0,27,0,4,0,0,0,[])],
  [(59,1,8,0,0,0,0,0,[]), (60,1,32,0,0,0,0,0,[]), (61,1,33,0,0,0,0,0,[]), (62,1,47,0,0,0,0,0,[])]]
/-- MergeLineModel.comes(II)Z -/
def cd_191 : List (List xI) := [[(0,1,2,1,0,0,0,0,[]), (1,1,1,1,1,0,0,0,[]), (2,1,1,1,2,0,0,0,[]), (3,3,40,10,188,3,120,0,[1147,1149,25]), (6,0,27,0,1,0,0,0,[])],
  [(6,3,29,0,2,1,0,0,[]), (9,1,0,0,0,0,0,0,[]), (10,1,46,0,1,0,0,0,[])],
  [(11,1,0,0,0,0,0,4,[]), (12,1,1,1,1,0,0,0,[]), (13,1,10,0,0,0,0,0,[]), (14,1,4,1,3,0,0,0,[]), (15,0,27,0,3,0,0,0,[])],
  [(15,1,1,1,3,0,0,0,[]), (16,1,0,0,0,0,0,4,[]), (17,1,1,1,1,0,0,0,[]), (18,1,10,0,0,0,0,0,[]), (19,1,2,1,0,0,0,0,[]), (20,3,35,0,10,0,14,0,[1004]), (23,2,0,3,0,0,83,41904,[1102]), (25,1,1,1,1,0,0,0,[]), (26,1,8,0,0,0,0,0,[]), (27,1,32,0,0,0,0,0,[]), (28,1,8,0,0,0,0,0,[]), (29,3,28,0,5,3,0,0,[]), (32,1,2,1,0,0,0,0,[]), (33,1,1,1,3,0,0,0,[]), (34,1,1,1,2,0,0,0,[]), (35,3,41,10,189,3,123,0,[1238,1240,41]), (38,0,27,0,4,0,0,0,[])],
  [(38,3,7,0,3,0,0,1,[]), (41,3,26,0,3,0,0,0,[])],
  [(44,1,0,0,0,0,0,1,[]), (45,1,46,0,1,0,0,0,[])]]
/-- MergeLineModel.revert(I)I -/
def cd_192 : List (List xI) := [[(0,1,2,1,0,0,0,0,[]), (1,1,0,0,0,0,0,0,[]), (2,3,36,0,10,3,1,0,[1007]), (5,1,2,1,0,0,0,0,[]), (6,1,1,1,1,0,0,0,[]), (7,3,40,10,181,2,93,0,[1109,1111,21]), (10,0,27,0,1,0,0,0,[])],
  [(10,3,29,0,2,1,0,0,[]), (13,2,0,1,0,0,0,(-2),[]), (15,1,46,0,0,0,0,0,[])],
  [(16,1,2,1,0,0,0,0,[]), (17,3,35,0,10,0,14,0,[1004]), (20,2,0,3,0,0,80,41724,[1099]), (22,1,1,1,1,0,0,0,[]), (23,1,8,0,0,0,0,0,[]), (24,1,32,0,0,0,0,0,[]), (25,1,0,0,0,0,0,4,[]), (26,3,28,0,3,1,0,0,[]), (29,1,0,0,0,0,0,1,[]), (30,3,26,0,4,0,0,0,[])],
  [(33,1,0,0,0,0,0,0,[]), (34,0,27,0,4,0,0,0,[])],
  [(34,1,4,1,2,0,0,0,[]), (35,1,0,0,0,0,0,4,[]), (36,1,1,1,1,0,0,0,[]), (37,1,10,0,0,0,0,0,[]), (38,1,4,1,3,0,0,0,[]), (39,0,27,0,5,0,0,0,[])],
  [(39,1,1,1,3,0,0,0,[]), (40,1,0,0,0,0,0,4,[]), (41,1,1,1,1,0,0,0,[]), (42,1,10,0,0,0,0,0,[]), (43,1,2,1,0,0,0,0,[]), (44,3,35,0,10,0,14,0,[1004]), (47,2,0,3,0,0,83,41904,[1102]), (49,1,1,1,1,0,0,0,[]), (50,1,8,0,0,0,0,0,[]), (51,1,32,0,0,0,0,0,[]), (52,1,8,0,0,0,0,0,[]), (53,3,28,0,9,3,0,0,[]), (56,1,1,1,2,0,0,0,[]), (57,3,29,0,9,0,0,0,[]), (60,1,2,1,0,0,0,0,[]), (61,1,1,1,3,0,0,0,[]), (62,1,2,1,0,0,0,0,[]), (63,3,35,0,10,0,14,0,[1004]), (66,1,0,0,0,0,0,0,[]), (67,1,32,0,0,0,0,0,[]), (68,1,0,0,0,0,0,1,[]), (69,3,40,10,187,4,112,0,[1135,1137,24]), (72,0,27,0,6,0,0,0,[])],
  [(72,1,0,0,0,0,0,(-1),[]), (73,3,28,0,7,0,0,0,[]), (76,1,0,0,0,0,0,1,[]), (77,3,26,0,8,0,0,0,[])],
  [(80,1,0,0,0,0,0,0,[]), (81,0,27,0,8,0,0,0,[])],
  [(81,1,4,1,2,0,0,0,[]), (82,3,7,0,3,0,0,1,[]), (85,3,26,0,5,0,0,0,[])],
  [(88,1,1,1,2,0,0,0,[]), (89,3,29,0,10,1,0,0,[]), (92,2,0,1,0,0,0,(-3),[]), (94,1,46,0,0,0,0,0,[])],
  [(95,1,2,1,0,0,0,0,[]), (96,3,35,0,10,0,14,0,[1004]), (99,2,0,1,0,0,0,7,[]), (101,1,32,0,0,0,0,0,[]), (102,2,0,1,0,0,0,60,[]), (104,3,28,0,11,1,0,0,[]), (107,2,0,1,0,0,0,(-4),[]), (109,1,46,0,0,0,0,0,[])],
  [(110,1,2,1,0,0,0,0,[]), (111,1,0,0,0,0,0,4,[]), (112,3,40,10,182,2,88,0,[1093,1095,20]), (115,0,27,0,12,0,0,0,[])],
  [(115,1,4,1,3,0,0,0,[]), (116,1,2,1,0,0,0,0,[]), (117,3,35,0,10,0,14,0,[1004]), (120,2,0,3,0,0,83,41904,[1102]), (122,1,1,1,3,0,0,0,[]), (123,1,8,0,0,0,0,0,[]), (124,1,2,1,0,0,0,0,[]), (125,3,35,0,10,0,14,0,[1004]), (128,2,0,3,0,0,83,41904,[1102]), (130,1,1,1,1,0,0,0,[]), (131,1,8,0,0,0,0,0,[]), (132,1,32,0,0,0,0,0,[]), (133,1,33,0,0,0,0,0,[]), (134,1,0,0,0,0,0,0,[]), (135,2,4,0,4,0,0,0,[]), (137,0,27,0,13,0,0,0,[])],
  [(137,2,1,0,4,0,0,0,[]), (139,1,2,1,0,0,0,0,[]), (140,3,35,0,10,0,14,0,[1004]), (143,2,0,3,0,0,83,41904,[1102]), (145,1,1,1,1,0,0,0,[]), (146,1,8,0,0,0,0,0,[]), (147,1,32,0,0,0,0,0,[]), (148,3,28,0,16,3,0,0,[]), (151,1,0,0,0,0,0,4,[]), (152,1,1,1,1,0,0,0,[]), (153,1,10,0,0,0,0,0,[]), (154,2,1,0,4,0,0,0,[]), (156,1,8,0,0,0,0,0,[]), (157,2,4,0,5,0,0,0,[]), (159,1,0,0,0,0,0,4,[]), (160,1,1,1,3,0,0,0,[]), (161,1,10,0,0,0,0,0,[]), (162,2,1,0,4,0,0,0,[]), (164,1,8,0,0,0,0,0,[]), (165,2,4,0,6,0,0,0,[]), (167,1,2,1,0,0,0,0,[]), (168,3,35,0,10,0,14,0,[1004]), (171,2,0,3,0,0,92,42084,[1118]), (173,2,1,0,6,0,0,0,[]), (175,1,8,0,0,0,0,0,[]), (176,1,2,1,0,0,0,0,[]), (177,3,35,0,10,0,14,0,[1004]), (180,2,0,3,0,0,92,42084,[1118]), (182,2,1,0,5,0,0,0,[]), (184,1,8,0,0,0,0,0,[]), (185,1,32,0,0,0,0,0,[]), (186,1,33,0,0,0,0,0,[]), (187,1,2,1,0,0,0,0,[]), (188,3,35,0,10,0,14,0,[1004]), (191,2,0,3,0,0,103,42804,[1121]), (193,2,1,0,6,0,0,0,[]), (195,1,8,0,0,0,0,0,[]), (196,1,2,1,0,0,0,0,[]), (197,3,35,0,10,0,14,0,[1004]), (200,2,0,3,0,0,103,42804,[1121]), (202,2,1,0,5,0,0,0,[]), (204,1,8,0,0,0,0,0,[]), (205,1,32,0,0,0,0,0,[]), (206,1,33,0,0,0,0,0,[]), (207,1,2,1,0,0,0,0,[]), (208,3,35,0,10,0,14,0,[1004]), (211,2,0,3,0,0,107,43044,[1126]), (213,2,1,0,6,0,0,0,[]), (215,1,8,0,0,0,0,0,[]), (216,1,2,1,0,0,0,0,[]), (217,3,35,0,10,0,14,0,[1004]), (220,2,0,3,0,0,107,43044,[1126]), (222,2,1,0,5,0,0,0,[]), (224,1,8,0,0,0,0,0,[]), (225,1,32,0,0,0,0,0,[]), (226,1,33,0,0,0,0,0,[]), (227,1,2,1,0,0,0,0,[]), (228,3,35,0,10,0,14,0,[1004]), (231,2,0,3,0,0,101,42324,[1119]), (233,2,1,0,6,0,0,0,[]), (235,1,8,0,0,0,0,0,[]), (236,1,2,1,0,0,0,0,[]), (237,3,35,0,10,0,14,0,[1004]), (240,2,0,3,0,0,102,42564,[1120]), (242,2,1,0,5,0,0,0,[]), (244,1,8,0,0,0,0,0,[]), (245,1,32,0,0,0,0,0,[]), (246,1,33,0,0,0,0,0,[]), (247,1,2,1,0,0,0,0,[]), (248,3,35,0,10,0,14,0,[1004]), (251,2,0,3,0,0,102,42564,[1120]), (253,2,1,0,6,0,0,0,[]), (255,1,8,0,0,0,0,0,[]), (256,1,2,1,0,0,0,0,[]), (257,3,35,0,10,0,14,0,[1004]), (260,2,0,3,0,0,101,42324,[1119]), (262,2,1,0,5,0,0,0,[]), (264,1,8,0,0,0,0,0,[]), (265,1,32,0,0,0,0,0,[]), (266,1,33,0,0,0,0,0,[]), (267,1,0,0,0,0,0,0,[]), (268,2,4,0,7,0,0,0,[]), (270,0,27,0,14,0,0,0,[])],
  [(270,2,1,0,7,0,0,0,[]), (272,2,0,1,0,0,0,6,[]), (274,3,28,0,15,3,0,0,[]), (277,1,2,1,0,0,0,0,[]), (278,3,35,0,10,0,14,0,[1004]), (281,2,0,3,0,0,108,43284,[1127]), (283,2,0,1,0,0,0,6,[]), (285,2,1,0,6,0,0,0,[]), (287,1,10,0,0,0,0,0,[]), (288,1,8,0,0,0,0,0,[]), (289,2,1,0,7,0,0,0,[]), (291,1,8,0,0,0,0,0,[]), (292,1,2,1,0,0,0,0,[]), (293,3,35,0,10,0,14,0,[1004]), (296,2,0,3,0,0,110,46164,[1129]), (298,2,0,1,0,0,0,6,[]), (300,2,1,0,5,0,0,0,[]), (302,1,10,0,0,0,0,0,[]), (303,1,8,0,0,0,0,0,[]), (304,2,1,0,7,0,0,0,[]), (306,1,8,0,0,0,0,0,[]), (307,1,32,0,0,0,0,0,[]), (308,1,33,0,0,0,0,0,[]), (309,1,2,1,0,0,0,0,[]), (310,3,35,0,10,0,14,0,[1004]), (313,2,0,3,0,0,109,44724,[1128]), (315,2,0,1,0,0,0,6,[]), (317,2,1,0,6,0,0,0,[]), (319,1,10,0,0,0,0,0,[]), (320,1,8,0,0,0,0,0,[]), (321,2,1,0,7,0,0,0,[]), (323,1,8,0,0,0,0,0,[]), (324,1,2,1,0,0,0,0,[]), (325,3,35,0,10,0,14,0,[1004]), (328,2,0,3,0,0,111,47604,[1130]), (330,2,0,1,0,0,0,6,[]), (332,2,1,0,5,0,0,0,[]), (334,1,10,0,0,0,0,0,[]), (335,1,8,0,0,0,0,0,[]), (336,2,1,0,7,0,0,0,[]), (338,1,8,0,0,0,0,0,[]), (339,1,32,0,0,0,0,0,[]), (340,1,33,0,0,0,0,0,[]), (341,1,2,1,0,0,0,0,[]), (342,3,35,0,10,0,14,0,[1004]), (345,2,0,3,0,0,110,46164,[1129]), (347,2,0,1,0,0,0,6,[]), (349,2,1,0,6,0,0,0,[]), (351,1,10,0,0,0,0,0,[]), (352,1,8,0,0,0,0,0,[]), (353,2,1,0,7,0,0,0,[]), (355,1,8,0,0,0,0,0,[]), (356,1,2,1,0,0,0,0,[]), (357,3,35,0,10,0,14,0,[1004]), (360,2,0,3,0,0,108,43284,[1127]), (362,2,0,1,0,0,0,6,[]), (364,2,1,0,5,0,0,0,[]), (366,1,10,0,0,0,0,0,[]), (367,1,8,0,0,0,0,0,[]), (368,2,1,0,7,0,0,0,[]), (370,1,8,0,0,0,0,0,[]), (371,1,32,0,0,0,0,0,[]), (372,1,33,0,0,0,0,0,[]), (373,1,2,1,0,0,0,0,[]), (374,3,35,0,10,0,14,0,[1004]), (377,2,0,3,0,0,111,47604,[1130]), (379,2,0,1,0,0,0,6,[]), (381,2,1,0,6,0,0,0,[]), (383,1,10,0,0,0,0,0,[]), (384,1,8,0,0,0,0,0,[]), (385,2,1,0,7,0,0,0,[]), (387,1,8,0,0,0,0,0,[]), (388,1,2,1,0,0,0,0,[]), (389,3,35,0,10,0,14,0,[1004]), (392,2,0,3,0,0,109,44724,[1128]), (394,2,0,1,0,0,0,6,[]), (396,2,1,0,5,0,0,0,[]), (398,1,10,0,0,0,0,0,[]), (399,1,8,0,0,0,0,0,[]), (400,2,1,0,7,0,0,0,[]), (402,1,8,0,0,0,0,0,[]), (403,1,32,0,0,0,0,0,[]), (404,1,33,0,0,0,0,0,[]), (405,3,7,0,7,0,0,1,[]), (408,3,26,0,14,0,0,0,[])],
  [(411,3,7,0,4,0,0,1,[]), (414,3,26,0,13,0,0,0,[])],
  [(417,1,1,1,3,0,0,0,[]), (418,1,46,0,0,0,0,0,[])]]
/-- MergeLineModel.pair(II)I -/
def cd_193 : List (List xI) := [[(0,1,2,1,0,0,0,0,[]), (1,1,0,0,0,0,0,0,[]), (2,3,36,0,10,3,1,0,[1007]), (5,1,2,1,0,0,0,0,[]), (6,1,1,1,1,0,0,0,[]), (7,3,40,10,181,2,93,0,[1109,1111,21]), (10,0,27,0,1,0,0,0,[])],
  [(10,3,29,0,3,0,0,0,[]), (13,1,2,1,0,0,0,0,[]), (14,1,1,1,2,0,0,0,[]), (15,3,40,10,181,2,93,0,[1109,1111,21]), (18,0,27,0,2,0,0,0,[])],
  [(18,3,29,0,3,0,0,0,[]), (21,1,1,1,1,0,0,0,[]), (22,1,1,1,2,0,0,0,[]), (23,3,28,0,4,1,0,0,[]), (26,0,27,0,3,0,0,0,[])],
  [(26,2,0,1,0,0,0,(-2),[]), (28,1,46,0,0,0,0,0,[])],
  [(29,1,2,1,0,0,0,0,[]), (30,3,35,0,10,0,14,0,[1004]), (33,2,0,3,0,0,80,41724,[1099]), (35,1,1,1,1,0,0,0,[]), (36,1,8,0,0,0,0,0,[]), (37,1,32,0,0,0,0,0,[]), (38,3,29,0,5,1,0,0,[]), (41,1,2,1,0,0,0,0,[]), (42,3,35,0,10,0,14,0,[1004]), (45,2,0,3,0,0,80,41724,[1099]), (47,1,1,1,2,0,0,0,[]), (48,1,8,0,0,0,0,0,[]), (49,1,32,0,0,0,0,0,[]), (50,3,29,0,5,1,0,0,[]), (53,1,2,1,0,0,0,0,[]), (54,3,35,0,10,0,14,0,[1004]), (57,2,0,3,0,0,84,41964,[1103]), (59,1,1,1,1,0,0,0,[]), (60,1,8,0,0,0,0,0,[]), (61,1,32,0,0,0,0,0,[]), (62,1,0,0,0,0,0,(-1),[]), (63,3,28,0,5,1,0,0,[]), (66,1,2,1,0,0,0,0,[]), (67,3,35,0,10,0,14,0,[1004]), (70,2,0,3,0,0,84,41964,[1103]), (72,1,1,1,2,0,0,0,[]), (73,1,8,0,0,0,0,0,[]), (74,1,32,0,0,0,0,0,[]), (75,1,0,0,0,0,0,(-1),[]), (76,3,28,0,6,0,0,0,[]), (79,0,27,0,5,0,0,0,[])],
  [(79,2,0,1,0,0,0,(-3),[]), (81,1,46,0,0,0,0,0,[])],
  [(82,1,2,1,0,0,0,0,[]), (83,3,35,0,10,0,14,0,[1004]), (86,2,0,3,0,0,84,41964,[1103]), (88,1,1,1,1,0,0,0,[]), (89,1,8,0,0,0,0,0,[]), (90,1,1,1,2,0,0,0,[]), (91,1,33,0,0,0,0,0,[]), (92,1,2,1,0,0,0,0,[]), (93,3,35,0,10,0,14,0,[1004]), (96,2,0,3,0,0,84,41964,[1103]), (98,1,1,1,2,0,0,0,[]), (99,1,8,0,0,0,0,0,[]), (100,1,1,1,1,0,0,0,[]), (101,1,33,0,0,0,0,0,[]), (102,1,0,0,0,0,0,1,[]), (103,1,46,0,0,0,0,0,[])]]
/-- MergeLineModel.fits(I)I -/
def cd_194 : List (List xI) := [[(0,1,2,1,0,0,0,0,[]), (1,1,0,0,0,0,0,0,[]), (2,3,36,0,10,3,1,0,[1007]), (5,1,2,1,0,0,0,0,[]), (6,1,1,1,1,0,0,0,[]), (7,3,40,10,181,2,93,0,[1109,1111,21]), (10,0,27,0,1,0,0,0,[])],
  [(10,3,29,0,2,1,0,0,[]), (13,2,0,1,0,0,0,(-2),[]), (15,3,26,0,5,0,0,0,[])],
  [(18,1,2,1,0,0,0,0,[]), (19,1,1,1,1,0,0,0,[]), (20,1,2,1,0,0,0,0,[]), (21,3,35,0,10,0,14,0,[1004]), (24,1,0,0,0,0,0,0,[]), (25,1,32,0,0,0,0,0,[]), (26,3,40,10,188,3,120,0,[1147,1149,25]), (29,0,27,0,3,0,0,0,[])],
  [(29,3,29,0,4,0,0,0,[]), (32,1,0,0,0,0,0,1,[]), (33,3,26,0,5,0,0,0,[])],
  [(36,1,0,0,0,0,0,0,[]), (37,0,27,0,5,0,0,0,[])],
  [(37,1,46,0,0,0,0,0,[])]]
/-- MergeLineModel.gives(II)Z -/
def cd_195 : List (List xI) := [[(0,1,0,0,0,0,0,0,[]), (1,1,4,1,3,0,0,0,[]), (2,1,0,0,0,0,0,4,[]), (3,1,1,1,1,0,0,0,[]), (4,1,10,0,0,0,0,0,[]), (5,2,4,0,4,0,0,0,[]), (7,0,27,0,1,0,0,0,[])],
  [(7,2,1,0,4,0,0,0,[]), (9,1,0,0,0,0,0,4,[]), (10,1,1,1,1,0,0,0,[]), (11,1,10,0,0,0,0,0,[]), (12,1,2,1,0,0,0,0,[]), (13,3,35,0,10,0,14,0,[1004]), (16,2,0,3,0,0,83,41904,[1102]), (18,1,1,1,1,0,0,0,[]), (19,1,8,0,0,0,0,0,[]), (20,1,32,0,0,0,0,0,[]), (21,1,8,0,0,0,0,0,[]), (22,3,28,0,14,3,0,0,[]), (25,1,0,0,0,0,0,0,[]), (26,2,4,0,5,0,0,0,[]), (28,0,27,0,2,0,0,0,[])],
  [(28,2,1,0,5,0,0,0,[]), (30,2,0,1,0,0,0,6,[]), (32,3,28,0,13,3,0,0,[]), (35,2,1,0,5,0,0,0,[]), (37,1,2,1,0,0,0,0,[]), (38,3,35,0,10,0,14,0,[1004]), (41,2,0,3,0,0,101,42324,[1119]), (43,2,1,0,4,0,0,0,[]), (45,1,8,0,0,0,0,0,[]), (46,1,32,0,0,0,0,0,[]), (47,3,28,0,4,3,0,0,[]), (50,1,2,1,0,0,0,0,[]), (51,3,35,0,10,0,14,0,[1004]), (54,2,0,3,0,0,109,44724,[1128]), (56,2,0,1,0,0,0,6,[]), (58,2,1,0,4,0,0,0,[]), (60,1,10,0,0,0,0,0,[]), (61,1,8,0,0,0,0,0,[]), (62,2,1,0,5,0,0,0,[]), (64,1,8,0,0,0,0,0,[]), (65,1,32,0,0,0,0,0,[]), (66,3,0,2,0,0,0,1000,[]), (69,3,42,0,176,2,67,0,[1085,1086]), (72,0,27,0,3,0,0,0,[])],
  [(72,3,26,0,5,0,0,0,[])],
  [(75,1,0,0,0,0,0,(-1),[]), (76,0,27,0,5,0,0,0,[])],
  [(76,2,4,0,6,0,0,0,[]), (78,2,1,0,5,0,0,0,[]), (80,1,2,1,0,0,0,0,[]), (81,3,35,0,10,0,14,0,[1004]), (84,2,0,3,0,0,102,42564,[1120]), (86,2,1,0,4,0,0,0,[]), (88,1,8,0,0,0,0,0,[]), (89,1,32,0,0,0,0,0,[]), (90,3,28,0,7,3,0,0,[]), (93,1,2,1,0,0,0,0,[]), (94,3,35,0,10,0,14,0,[1004]), (97,2,0,3,0,0,111,47604,[1130]), (99,2,0,1,0,0,0,6,[]), (101,2,1,0,4,0,0,0,[]), (103,1,10,0,0,0,0,0,[]), (104,1,8,0,0,0,0,0,[]), (105,2,1,0,5,0,0,0,[]), (107,1,8,0,0,0,0,0,[]), (108,1,32,0,0,0,0,0,[]), (109,3,0,2,0,0,0,1000,[]), (112,3,42,0,176,2,67,0,[1085,1086]), (115,0,27,0,6,0,0,0,[])],
  [(115,3,26,0,8,0,0,0,[])],
  [(118,1,0,0,0,0,0,(-1),[]), (119,0,27,0,8,0,0,0,[])],
  [(119,2,4,0,7,0,0,0,[]), (121,1,1,1,3,0,0,0,[]), (122,3,29,0,10,1,0,0,[]), (125,2,1,0,6,0,0,0,[]), (127,1,0,0,0,0,0,(-1),[]), (128,3,28,0,9,0,0,0,[]), (131,1,1,1,2,0,0,0,[]), (132,1,0,0,0,0,0,(-1),[]), (133,3,28,0,10,0,0,0,[]), (136,2,1,0,6,0,0,0,[]), (138,1,1,1,2,0,0,0,[]), (139,3,28,0,10,0,0,0,[]), (142,0,27,0,9,0,0,0,[])],
  [(142,2,1,0,7,0,0,0,[]), (144,1,0,0,0,0,0,(-1),[]), (145,3,28,0,11,0,0,0,[]), (148,1,1,1,2,0,0,0,[]), (149,1,0,0,0,0,0,(-1),[]), (150,3,28,0,10,0,0,0,[]), (153,2,1,0,7,0,0,0,[]), (155,1,1,1,2,0,0,0,[]), (156,3,28,0,11,1,0,0,[]), (159,0,27,0,10,0,0,0,[])],
  [(159,1,0,0,0,0,0,1,[]), (160,3,26,0,12,0,0,0,[])],
  [(163,1,0,0,0,0,0,0,[]), (164,0,27,0,12,0,0,0,[])],
  [(164,1,4,1,3,0,0,0,[]), (165,3,7,0,5,0,0,1,[]), (168,3,26,0,2,0,0,0,[])],
  [(171,3,7,0,4,0,0,1,[]), (174,3,26,0,1,0,0,0,[])],
  [(177,1,1,1,3,0,0,0,[]), (178,1,46,0,1,0,0,0,[])]]
/-- MergeLineModel.isTouched(II)Z -/
def cd_196 : List (List xI) := [[(0,1,2,1,0,0,0,0,[]), (1,3,35,0,10,0,14,0,[1004]), (4,2,0,3,0,0,57,41484,[1055]), (6,1,1,1,2,0,0,0,[]), (7,1,8,0,0,0,0,0,[]), (8,1,32,0,0,0,0,0,[]), (9,1,4,1,3,0,0,0,[]), (10,1,2,1,0,0,0,0,[]), (11,3,35,0,10,0,14,0,[1004]), (14,2,0,3,0,0,58,41508,[1056]), (16,1,1,1,2,0,0,0,[]), (17,1,8,0,0,0,0,0,[]), (18,1,32,0,0,0,0,0,[]), (19,2,4,0,4,0,0,0,[]), (21,1,1,1,3,0,0,0,[]), (22,1,0,0,0,0,0,1,[]), (23,3,28,0,2,1,0,0,[]), (26,1,2,1,0,0,0,0,[]), (27,1,1,1,1,0,0,0,[]), (28,2,1,0,4,0,0,0,[]), (30,3,40,10,195,3,127,0,[1159,1161,27]), (33,0,27,0,1,0,0,0,[])],
  [(33,3,26,0,7,0,0,0,[])],
  [(36,1,2,1,0,0,0,0,[]), (37,1,1,1,1,0,0,0,[]), (38,2,1,0,4,0,0,0,[]), (40,3,40,10,184,3,98,0,[1114,1116,22]), (43,0,27,0,3,0,0,0,[])],
  [(43,3,29,0,5,1,0,0,[]), (46,1,1,1,3,0,0,0,[]), (47,1,0,0,0,0,0,2,[]), (48,3,28,0,6,1,0,0,[]), (51,1,2,1,0,0,0,0,[]), (52,1,1,1,1,0,0,0,[]), (53,1,0,0,0,0,0,(-1),[]), (54,3,40,10,195,3,127,0,[1159,1161,27]), (57,0,27,0,4,0,0,0,[])],
  [(57,3,29,0,6,0,0,0,[]), (60,0,27,0,5,0,0,0,[])],
  [(60,1,0,0,0,0,0,1,[]), (61,3,26,0,7,0,0,0,[])],
  [(64,1,0,0,0,0,0,0,[]), (65,0,27,0,7,0,0,0,[])],
  [(65,1,46,0,1,0,0,0,[])]]
/-- MergeLineModel.touches(II)I -/
def cd_197 : List (List xI) := [[(0,1,2,1,0,0,0,0,[]), (1,1,0,0,0,0,0,0,[]), (2,3,36,0,10,3,1,0,[1007]), (5,1,2,1,0,0,0,0,[]), (6,1,1,1,1,0,0,0,[]), (7,3,40,10,181,2,93,0,[1109,1111,21]), (10,0,27,0,1,0,0,0,[])],
  [(10,3,29,0,3,0,0,0,[]), (13,1,2,1,0,0,0,0,[]), (14,1,1,1,2,0,0,0,[]), (15,3,40,10,173,2,62,0,[1064,1066,17]), (18,0,27,0,2,0,0,0,[])],
  [(18,3,29,0,4,1,0,0,[]), (21,0,27,0,3,0,0,0,[])],
  [(21,2,0,1,0,0,0,(-2),[]), (23,3,26,0,7,0,0,0,[])],
  [(26,1,2,1,0,0,0,0,[]), (27,1,1,1,1,0,0,0,[]), (28,1,1,1,2,0,0,0,[]), (29,3,40,10,196,3,130,0,[1155,1157,26]), (32,0,27,0,5,0,0,0,[])],
  [(32,3,29,0,6,0,0,0,[]), (35,1,0,0,0,0,0,1,[]), (36,3,26,0,7,0,0,0,[])],
  [(39,1,0,0,0,0,0,0,[]), (40,0,27,0,7,0,0,0,[])],
  [(40,1,46,0,0,0,0,0,[])]]
/-- MergeLineModel.placeOf(I)I -/
def cd_198 : List (List xI) := [[(0,1,0,0,0,0,0,0,[]), (1,1,4,1,2,0,0,0,[]), (2,0,27,0,1,0,0,0,[])],
  [(2,1,1,1,2,0,0,0,[]), (3,1,2,1,0,0,0,0,[]), (4,3,35,0,10,0,14,0,[1004]), (7,2,0,1,0,0,0,8,[]), (9,1,32,0,0,0,0,0,[]), (10,3,28,0,3,3,0,0,[]), (13,1,2,1,0,0,0,0,[]), (14,3,35,0,10,0,14,0,[1004]), (17,2,0,3,0,0,133,49044,[1167]), (19,1,1,1,2,0,0,0,[]), (20,1,8,0,0,0,0,0,[]), (21,1,32,0,0,0,0,0,[]), (22,1,1,1,1,0,0,0,[]), (23,3,28,0,2,1,0,0,[]), (26,1,1,1,2,0,0,0,[]), (27,1,46,0,0,0,0,0,[])],
  [(28,3,7,0,2,0,0,1,[]), (31,3,26,0,1,0,0,0,[])],
  [(34,1,0,0,0,0,0,(-1),[]), (35,1,46,0,0,0,0,0,[])]]
/-- MergeLineModel.queue(I)I -/
def cd_199 : List (List xI) := [[(0,1,2,1,0,0,0,0,[]), (1,1,0,0,0,0,0,0,[]), (2,3,36,0,10,3,1,0,[1007]), (5,1,2,1,0,0,0,0,[]), (6,1,1,1,1,0,0,0,[]), (7,3,40,10,181,2,93,0,[1109,1111,21]), (10,0,27,0,1,0,0,0,[])],
  [(10,3,29,0,2,1,0,0,[]), (13,2,0,1,0,0,0,(-2),[]), (15,1,46,0,0,0,0,0,[])],
  [(16,1,2,1,0,0,0,0,[]), (17,3,35,0,10,0,14,0,[1004]), (20,2,0,3,0,0,80,41724,[1099]), (22,1,1,1,1,0,0,0,[]), (23,1,8,0,0,0,0,0,[]), (24,1,32,0,0,0,0,0,[]), (25,3,29,0,3,1,0,0,[]), (28,1,2,1,0,0,0,0,[]), (29,3,35,0,10,0,14,0,[1004]), (32,2,0,3,0,0,83,41904,[1102]), (34,1,1,1,1,0,0,0,[]), (35,1,8,0,0,0,0,0,[]), (36,1,32,0,0,0,0,0,[]), (37,3,29,0,4,1,0,0,[]), (40,0,27,0,3,0,0,0,[])],
  [(40,2,0,1,0,0,0,(-3),[]), (42,1,46,0,0,0,0,0,[])],
  [(43,1,2,1,0,0,0,0,[]), (44,3,35,0,10,0,14,0,[1004]), (47,2,0,3,0,0,80,41724,[1099]), (49,1,1,1,1,0,0,0,[]), (50,1,8,0,0,0,0,0,[]), (51,1,0,0,0,0,0,1,[]), (52,1,33,0,0,0,0,0,[]), (53,1,2,1,0,0,0,0,[]), (54,3,35,0,10,0,14,0,[1004]), (57,2,0,3,0,0,133,49044,[1167]), (59,1,2,1,0,0,0,0,[]), (60,3,35,0,10,0,14,0,[1004]), (63,2,0,1,0,0,0,8,[]), (65,1,32,0,0,0,0,0,[]), (66,1,8,0,0,0,0,0,[]), (67,1,1,1,1,0,0,0,[]), (68,1,33,0,0,0,0,0,[]), (69,1,2,1,0,0,0,0,[]), (70,3,35,0,10,0,14,0,[1004]), (73,2,0,1,0,0,0,8,[]), (75,1,24,0,0,0,0,0,[]), (76,1,32,0,0,0,0,0,[]), (77,1,0,0,0,0,0,1,[]), (78,1,8,0,0,0,0,0,[]), (79,1,33,0,0,0,0,0,[]), (80,1,2,1,0,0,0,0,[]), (81,3,35,0,10,0,14,0,[1004]), (84,2,0,1,0,0,0,8,[]), (86,1,32,0,0,0,0,0,[]), (87,1,0,0,0,0,0,1,[]), (88,1,9,0,0,0,0,0,[]), (89,1,46,0,0,0,0,0,[])]]
/-- MergeLineModel.out(II)V -/
def cd_200 : List (List xI) := [[(0,1,2,1,0,0,0,0,[]), (1,1,1,1,1,0,0,0,[]), (2,3,40,10,198,2,134,0,[1176,1178,29]), (5,0,27,0,1,0,0,0,[])],
  [(5,1,4,1,3,0,0,0,[]), (6,1,2,1,0,0,0,0,[]), (7,3,35,0,10,0,14,0,[1004]), (10,2,0,1,0,0,0,8,[]), (12,1,24,0,0,0,0,0,[]), (13,1,32,0,0,0,0,0,[]), (14,1,0,0,0,0,0,1,[]), (15,1,9,0,0,0,0,0,[]), (16,1,33,0,0,0,0,0,[]), (17,1,1,1,3,0,0,0,[]), (18,2,4,0,4,0,0,0,[]), (20,0,27,0,2,0,0,0,[])],
  [(20,2,1,0,4,0,0,0,[]), (22,1,2,1,0,0,0,0,[]), (23,3,35,0,10,0,14,0,[1004]), (26,2,0,1,0,0,0,8,[]), (28,1,32,0,0,0,0,0,[]), (29,3,28,0,3,3,0,0,[]), (32,1,2,1,0,0,0,0,[]), (33,3,35,0,10,0,14,0,[1004]), (36,2,0,3,0,0,133,49044,[1167]), (38,2,1,0,4,0,0,0,[]), (40,1,8,0,0,0,0,0,[]), (41,1,2,1,0,0,0,0,[]), (42,3,35,0,10,0,14,0,[1004]), (45,2,0,3,0,0,133,49044,[1167]), (47,2,1,0,4,0,0,0,[]), (49,1,8,0,0,0,0,0,[]), (50,1,0,0,0,0,0,1,[]), (51,1,8,0,0,0,0,0,[]), (52,1,32,0,0,0,0,0,[]), (53,1,33,0,0,0,0,0,[]), (54,3,7,0,4,0,0,1,[]), (57,3,26,0,2,0,0,0,[])],
  [(60,1,2,1,0,0,0,0,[]), (61,3,35,0,10,0,14,0,[1004]), (64,2,0,3,0,0,80,41724,[1099]), (66,1,1,1,1,0,0,0,[]), (67,1,8,0,0,0,0,0,[]), (68,1,1,1,2,0,0,0,[]), (69,1,33,0,0,0,0,0,[]), (70,1,47,0,0,0,0,0,[])]]
/-- MergeLineModel.leave(I)I -/
def cd_201 : List (List xI) := [[(0,1,2,1,0,0,0,0,[]), (1,1,0,0,0,0,0,0,[]), (2,3,36,0,10,3,1,0,[1007]), (5,1,2,1,0,0,0,0,[]), (6,1,1,1,1,0,0,0,[]), (7,3,40,10,181,2,93,0,[1109,1111,21]), (10,0,27,0,1,0,0,0,[])],
  [(10,3,29,0,2,1,0,0,[]), (13,2,0,1,0,0,0,(-2),[]), (15,1,46,0,0,0,0,0,[])],
  [(16,1,2,1,0,0,0,0,[]), (17,3,35,0,10,0,14,0,[1004]), (20,2,0,3,0,0,80,41724,[1099]), (22,1,1,1,1,0,0,0,[]), (23,1,8,0,0,0,0,0,[]), (24,1,32,0,0,0,0,0,[]), (25,1,0,0,0,0,0,1,[]), (26,3,28,0,3,0,0,0,[]), (29,2,0,1,0,0,0,(-3),[]), (31,1,46,0,0,0,0,0,[])],
  [(32,1,2,1,0,0,0,0,[]), (33,1,1,1,1,0,0,0,[]), (34,2,0,1,0,0,0,7,[]), (36,3,41,10,200,3,137,0,[1172,1174,28]), (39,0,27,0,4,0,0,0,[])],
  [(39,1,0,0,0,0,0,1,[]), (40,1,46,0,0,0,0,0,[])]]
/-- MergeLineModel.hand(IZ)I -/
def cd_202 : List (List xI) := [[(0,1,2,1,0,0,0,0,[]), (1,1,0,0,0,0,0,0,[]), (2,3,36,0,10,3,1,0,[1007]), (5,1,2,1,0,0,0,0,[]), (6,1,1,1,1,0,0,0,[]), (7,3,40,10,181,2,93,0,[1109,1111,21]), (10,0,27,0,1,0,0,0,[])],
  [(10,3,29,0,2,1,0,0,[]), (13,2,0,1,0,0,0,(-2),[]), (15,1,46,0,0,0,0,0,[])],
  [(16,1,2,1,0,0,0,0,[]), (17,3,35,0,10,0,14,0,[1004]), (20,2,0,3,0,0,78,41604,[1097]), (22,1,1,1,1,0,0,0,[]), (23,1,8,0,0,0,0,0,[]), (24,1,32,0,0,0,0,0,[]), (25,1,0,0,0,0,0,3,[]), (26,3,28,0,3,0,0,0,[]), (29,2,0,1,0,0,0,(-3),[]), (31,1,46,0,0,0,0,0,[])],
  [(32,1,2,1,0,0,0,0,[]), (33,3,35,0,10,0,14,0,[1004]), (36,2,0,3,0,0,85,42024,[1104]), (38,1,1,1,1,0,0,0,[]), (39,1,8,0,0,0,0,0,[]), (40,1,32,0,0,0,0,0,[]), (41,1,4,1,3,0,0,0,[]), (42,1,2,1,0,0,0,0,[]), (43,3,35,0,10,0,14,0,[1004]), (46,2,0,3,0,0,85,42024,[1104]), (48,1,1,1,1,0,0,0,[]), (49,1,8,0,0,0,0,0,[]), (50,1,1,1,2,0,0,0,[]), (51,3,29,0,4,0,0,0,[]), (54,1,0,0,0,0,0,1,[]), (55,3,26,0,5,0,0,0,[])],
  [(58,1,0,0,0,0,0,0,[]), (59,0,27,0,5,0,0,0,[])],
  [(59,1,33,0,0,0,0,0,[]), (60,1,1,1,3,0,0,0,[]), (61,1,46,0,0,0,0,0,[])]]
/-- MergeLineModel.size(I)I -/
def cd_203 : List (List xI) := [[(0,1,2,1,0,0,0,0,[]), (1,1,0,0,0,0,0,0,[]), (2,3,36,0,10,3,1,0,[1007]), (5,1,1,1,1,0,0,0,[]), (6,1,16,0,0,0,0,0,[]), (7,1,18,0,0,0,0,1,[]), (8,3,18,1,0,0,140,8,[1188]), (11,3,42,0,164,3,37,0,[1031,1032]), (14,0,27,0,1,0,0,0,[])],
  [(14,3,29,0,2,1,0,0,[]), (17,2,0,1,0,0,0,(-2),[]), (19,1,46,0,0,0,0,0,[])],
  [(20,1,2,1,0,0,0,0,[]), (21,3,35,0,10,0,14,0,[1004]), (24,1,0,0,0,0,0,5,[]), (25,1,32,0,0,0,0,0,[]), (26,1,4,1,2,0,0,0,[]), (27,1,2,1,0,0,0,0,[]), (28,3,35,0,10,0,14,0,[1004]), (31,1,0,0,0,0,0,5,[]), (32,1,1,1,1,0,0,0,[]), (33,1,33,0,0,0,0,0,[]), (34,1,1,1,2,0,0,0,[]), (35,1,46,0,0,0,0,0,[])]]
/-- MergeLineModel.isFree(I)Z -/
def cd_204 : List (List xI) := [[(0,1,2,1,0,0,0,0,[]), (1,3,35,0,10,0,14,0,[1004]), (4,2,0,3,0,0,80,41724,[1099]), (6,1,1,1,1,0,0,0,[]), (7,1,8,0,0,0,0,0,[]), (8,1,32,0,0,0,0,0,[]), (9,1,0,0,0,0,0,1,[]), (10,3,28,0,2,1,0,0,[]), (13,1,2,1,0,0,0,0,[]), (14,3,35,0,10,0,14,0,[1004]), (17,2,0,3,0,0,78,41604,[1097]), (19,1,1,1,1,0,0,0,[]), (20,1,8,0,0,0,0,0,[]), (21,1,32,0,0,0,0,0,[]), (22,1,0,0,0,0,0,3,[]), (23,3,28,0,1,1,0,0,[]), (26,1,2,1,0,0,0,0,[]), (27,3,35,0,10,0,14,0,[1004]), (30,2,0,3,0,0,85,42024,[1104]), (32,1,1,1,1,0,0,0,[]), (33,1,8,0,0,0,0,0,[]), (34,1,32,0,0,0,0,0,[]), (35,1,0,0,0,0,0,1,[]), (36,3,28,0,2,1,0,0,[]), (39,0,27,0,1,0,0,0,[])],
  [(39,1,0,0,0,0,0,1,[]), (40,3,26,0,3,0,0,0,[])],
  [(43,1,0,0,0,0,0,0,[]), (44,0,27,0,3,0,0,0,[])],
  [(44,1,46,0,1,0,0,0,[])]]
/-- MergeLineModel.isReady(I)Z -/
def cd_205 : List (List xI) := [[(0,1,2,1,0,0,0,0,[]), (1,1,1,1,1,0,0,0,[]), (2,3,40,10,204,2,142,0,[1210,1212,34]), (5,0,27,0,1,0,0,0,[])],
  [(5,3,29,0,4,0,0,0,[]), (8,1,2,1,0,0,0,0,[]), (9,3,35,0,10,0,14,0,[1004]), (12,2,0,3,0,0,84,41964,[1103]), (14,1,1,1,1,0,0,0,[]), (15,1,8,0,0,0,0,0,[]), (16,1,32,0,0,0,0,0,[]), (17,1,0,0,0,0,0,(-1),[]), (18,3,28,0,3,0,0,0,[]), (21,1,2,1,0,0,0,0,[]), (22,1,2,1,0,0,0,0,[]), (23,3,35,0,10,0,14,0,[1004]), (26,2,0,3,0,0,84,41964,[1103]), (28,1,1,1,1,0,0,0,[]), (29,1,8,0,0,0,0,0,[]), (30,1,32,0,0,0,0,0,[]), (31,3,40,10,204,2,142,0,[1210,1212,34]), (34,0,27,0,2,0,0,0,[])],
  [(34,3,29,0,4,0,0,0,[]), (37,0,27,0,3,0,0,0,[])],
  [(37,1,0,0,0,0,0,1,[]), (38,3,26,0,5,0,0,0,[])],
  [(41,1,0,0,0,0,0,0,[]), (42,0,27,0,5,0,0,0,[])],
  [(42,1,46,0,1,0,0,0,[])]]
/-- MergeLineModel.isFirst(I)Z -/
def cd_206 : List (List xI) := [[(0,1,2,1,0,0,0,0,[]), (1,3,35,0,10,0,14,0,[1004]), (4,2,0,3,0,0,84,41964,[1103]), (6,1,1,1,1,0,0,0,[]), (7,1,8,0,0,0,0,0,[]), (8,1,32,0,0,0,0,0,[]), (9,1,4,1,2,0,0,0,[]), (10,1,1,1,2,0,0,0,[]), (11,1,0,0,0,0,0,(-1),[]), (12,3,28,0,3,0,0,0,[]), (15,1,2,1,0,0,0,0,[]), (16,3,35,0,10,0,14,0,[1004]), (19,2,0,3,0,0,80,41724,[1099]), (21,1,1,1,2,0,0,0,[]), (22,1,8,0,0,0,0,0,[]), (23,1,32,0,0,0,0,0,[]), (24,1,0,0,0,0,0,1,[]), (25,3,28,0,3,1,0,0,[]), (28,1,2,1,0,0,0,0,[]), (29,1,1,1,1,0,0,0,[]), (30,3,40,10,198,2,134,0,[1176,1178,29]), (33,0,27,0,1,0,0,0,[])],
  [(33,1,2,1,0,0,0,0,[]), (34,1,1,1,2,0,0,0,[]), (35,3,40,10,198,2,134,0,[1176,1178,29]), (38,0,27,0,2,0,0,0,[])],
  [(38,3,28,0,4,3,0,0,[]), (41,0,27,0,3,0,0,0,[])],
  [(41,1,0,0,0,0,0,1,[]), (42,3,26,0,5,0,0,0,[])],
  [(45,1,0,0,0,0,0,0,[]), (46,0,27,0,5,0,0,0,[])],
  [(46,1,46,0,1,0,0,0,[])]]
/-- MergeLineModel.hasKind(II)Z -/
def cd_207 : List (List xI) := [[(0,1,2,1,0,0,0,0,[]), (1,3,35,0,10,0,14,0,[1004]), (4,2,0,3,0,0,78,41604,[1097]), (6,1,1,1,1,0,0,0,[]), (7,1,8,0,0,0,0,0,[]), (8,1,32,0,0,0,0,0,[]), (9,1,1,1,2,0,0,0,[]), (10,3,28,0,1,0,0,0,[]), (13,1,2,1,0,0,0,0,[]), (14,3,35,0,10,0,14,0,[1004]), (17,2,0,3,0,0,84,41964,[1103]), (19,1,1,1,1,0,0,0,[]), (20,1,8,0,0,0,0,0,[]), (21,1,32,0,0,0,0,0,[]), (22,1,0,0,0,0,0,(-1),[]), (23,3,28,0,2,0,0,0,[]), (26,1,2,1,0,0,0,0,[]), (27,3,35,0,10,0,14,0,[1004]), (30,2,0,3,0,0,78,41604,[1097]), (32,1,2,1,0,0,0,0,[]), (33,3,35,0,10,0,14,0,[1004]), (36,2,0,3,0,0,84,41964,[1103]), (38,1,1,1,1,0,0,0,[]), (39,1,8,0,0,0,0,0,[]), (40,1,32,0,0,0,0,0,[]), (41,1,8,0,0,0,0,0,[]), (42,1,32,0,0,0,0,0,[]), (43,1,1,1,2,0,0,0,[]), (44,3,28,0,2,1,0,0,[]), (47,0,27,0,1,0,0,0,[])],
  [(47,1,0,0,0,0,0,1,[]), (48,3,26,0,3,0,0,0,[])],
  [(51,1,0,0,0,0,0,0,[]), (52,0,27,0,3,0,0,0,[])],
  [(52,1,46,0,1,0,0,0,[])]]
/-- MergeLineModel.unitComes(II)Z -/
def cd_208 : List (List xI) := [[(0,1,2,1,0,0,0,0,[]), (1,1,1,1,2,0,0,0,[]), (2,2,0,1,0,0,0,62,[]), (4,3,41,10,168,3,145,0,[1226,1228,38]), (7,0,27,0,1,0,0,0,[])],
  [(7,1,2,1,0,0,0,0,[]), (8,1,1,1,1,0,0,0,[]), (9,1,1,1,2,0,0,0,[]), (10,3,40,10,191,3,148,0,[1234,1236,40]), (13,0,27,0,2,0,0,0,[])],
  [(13,3,29,0,5,0,0,0,[]), (16,1,2,1,0,0,0,0,[]), (17,3,35,0,10,0,14,0,[1004]), (20,2,0,3,0,0,84,41964,[1103]), (22,1,1,1,1,0,0,0,[]), (23,1,8,0,0,0,0,0,[]), (24,1,32,0,0,0,0,0,[]), (25,1,0,0,0,0,0,(-1),[]), (26,3,28,0,4,0,0,0,[]), (29,1,2,1,0,0,0,0,[]), (30,1,2,1,0,0,0,0,[]), (31,3,35,0,10,0,14,0,[1004]), (34,2,0,3,0,0,84,41964,[1103]), (36,1,1,1,1,0,0,0,[]), (37,1,8,0,0,0,0,0,[]), (38,1,32,0,0,0,0,0,[]), (39,1,1,1,2,0,0,0,[]), (40,3,40,10,191,3,148,0,[1234,1236,40]), (43,0,27,0,3,0,0,0,[])],
  [(43,3,29,0,5,0,0,0,[]), (46,0,27,0,4,0,0,0,[])],
  [(46,1,0,0,0,0,0,1,[]), (47,1,46,0,1,0,0,0,[])],
  [(48,1,2,1,0,0,0,0,[]), (49,2,0,1,0,0,0,62,[]), (51,1,1,1,2,0,0,0,[]), (52,3,41,10,168,3,145,0,[1226,1228,38]), (55,0,27,0,6,0,0,0,[])],
  [(55,1,0,0,0,0,0,0,[]), (56,1,46,0,1,0,0,0,[])]]
/-- MergeLineModel.fitsAlone(I)Z -/
def cd_209 : List (List xI) := [[(0,1,2,1,0,0,0,0,[]), (1,1,2,1,0,0,0,0,[]), (2,3,35,0,10,0,14,0,[1004]), (5,1,0,0,0,0,0,0,[]), (6,1,32,0,0,0,0,0,[]), (7,2,0,1,0,0,0,63,[]), (9,3,41,10,168,3,145,0,[1226,1228,38]), (12,0,27,0,1,0,0,0,[])],
  [(12,1,2,1,0,0,0,0,[]), (13,1,1,1,1,0,0,0,[]), (14,2,0,1,0,0,0,63,[]), (16,3,40,10,208,3,151,0,[1230,1232,39]), (19,0,27,0,2,0,0,0,[])],
  [(19,1,46,0,1,0,0,0,[])]]
/-- MergeLineModel.unitOut(III)V -/
def cd_210 : List (List xI) := [[(0,1,2,1,0,0,0,0,[]), (1,3,35,0,10,0,14,0,[1004]), (4,2,0,3,0,0,84,41964,[1103]), (6,1,1,1,1,0,0,0,[]), (7,1,8,0,0,0,0,0,[]), (8,1,32,0,0,0,0,0,[]), (9,2,4,0,4,0,0,0,[]), (11,1,2,1,0,0,0,0,[]), (12,1,1,1,1,0,0,0,[]), (13,1,1,1,2,0,0,0,[]), (14,3,41,10,200,3,137,0,[1172,1174,28]), (17,0,27,0,1,0,0,0,[])],
  [(17,1,2,1,0,0,0,0,[]), (18,3,35,0,10,0,14,0,[1004]), (21,2,0,3,0,0,82,41844,[1101]), (23,1,1,1,1,0,0,0,[]), (24,1,8,0,0,0,0,0,[]), (25,1,1,1,3,0,0,0,[]), (26,1,33,0,0,0,0,0,[]), (27,2,1,0,4,0,0,0,[]), (29,1,0,0,0,0,0,(-1),[]), (30,3,28,0,3,0,0,0,[]), (33,1,2,1,0,0,0,0,[]), (34,2,1,0,4,0,0,0,[]), (36,1,1,1,2,0,0,0,[]), (37,3,41,10,200,3,137,0,[1172,1174,28]), (40,0,27,0,2,0,0,0,[])],
  [(40,1,2,1,0,0,0,0,[]), (41,3,35,0,10,0,14,0,[1004]), (44,2,0,3,0,0,82,41844,[1101]), (46,2,1,0,4,0,0,0,[]), (48,1,8,0,0,0,0,0,[]), (49,1,1,1,3,0,0,0,[]), (50,1,33,0,0,0,0,0,[]), (51,0,27,0,3,0,0,0,[])],
  [(51,1,47,0,0,0,0,0,[])]]
/-- MergeLineModel.firstReady(I)I -/
def cd_211 : List (List xI) := [[(0,1,0,0,0,0,0,0,[]), (1,1,4,1,2,0,0,0,[]), (2,0,27,0,1,0,0,0,[])],
  [(2,1,1,1,2,0,0,0,[]), (3,1,2,1,0,0,0,0,[]), (4,3,35,0,10,0,14,0,[1004]), (7,2,0,1,0,0,0,8,[]), (9,1,32,0,0,0,0,0,[]), (10,3,28,0,7,3,0,0,[]), (13,1,2,1,0,0,0,0,[]), (14,3,35,0,10,0,14,0,[1004]), (17,2,0,3,0,0,133,49044,[1167]), (19,1,1,1,2,0,0,0,[]), (20,1,8,0,0,0,0,0,[]), (21,1,32,0,0,0,0,0,[]), (22,1,4,1,3,0,0,0,[]), (23,1,2,1,0,0,0,0,[]), (24,1,1,1,3,0,0,0,[]), (25,3,40,10,206,2,154,0,[1202,1204,32]), (28,0,27,0,2,0,0,0,[])],
  [(28,3,29,0,6,0,0,0,[]), (31,1,2,1,0,0,0,0,[]), (32,1,1,1,3,0,0,0,[]), (33,3,40,10,205,2,157,0,[1206,1208,33]), (36,0,27,0,3,0,0,0,[])],
  [(36,3,29,0,6,0,0,0,[]), (39,1,1,1,1,0,0,0,[]), (40,1,0,0,0,0,0,(-1),[]), (41,3,28,0,5,0,0,0,[]), (44,1,2,1,0,0,0,0,[]), (45,1,1,1,3,0,0,0,[]), (46,1,1,1,1,0,0,0,[]), (47,3,40,10,207,3,160,0,[1214,1216,35]), (50,0,27,0,4,0,0,0,[])],
  [(50,3,29,0,6,0,0,0,[]), (53,0,27,0,5,0,0,0,[])],
  [(53,1,1,1,3,0,0,0,[]), (54,1,46,0,0,0,0,0,[])],
  [(55,3,7,0,2,0,0,1,[]), (58,3,26,0,1,0,0,0,[])],
  [(61,1,0,0,0,0,0,(-1),[]), (62,1,46,0,0,0,0,0,[])]]
/-- MergeLineModel.newRow(I)V -/
def cd_212 : List (List xI) := [[(0,1,2,1,0,0,0,0,[]), (1,3,35,0,10,0,14,0,[1004]), (4,2,0,1,0,0,0,9,[]), (6,1,32,0,0,0,0,0,[]), (7,1,4,1,2,0,0,0,[]), (8,1,2,1,0,0,0,0,[]), (9,3,35,0,10,0,14,0,[1004]), (12,2,0,1,0,0,0,9,[]), (14,1,24,0,0,0,0,0,[]), (15,1,32,0,0,0,0,0,[]), (16,1,0,0,0,0,0,1,[]), (17,1,8,0,0,0,0,0,[]), (18,1,33,0,0,0,0,0,[]), (19,1,2,1,0,0,0,0,[]), (20,3,35,0,10,0,14,0,[1004]), (23,2,0,3,0,0,163,49104,[1250]), (25,1,1,1,2,0,0,0,[]), (26,1,8,0,0,0,0,0,[]), (27,1,0,0,0,0,0,0,[]), (28,1,33,0,0,0,0,0,[]), (29,1,2,1,0,0,0,0,[]), (30,3,35,0,10,0,14,0,[1004]), (33,2,0,3,0,0,164,49120,[1251]), (35,1,1,1,2,0,0,0,[]), (36,1,8,0,0,0,0,0,[]), (37,1,0,0,0,0,0,0,[]), (38,1,33,0,0,0,0,0,[]), (39,1,2,1,0,0,0,0,[]), (40,3,35,0,10,0,14,0,[1004]), (43,2,0,3,0,0,165,49136,[1252]), (45,1,1,1,2,0,0,0,[]), (46,1,8,0,0,0,0,0,[]), (47,1,1,1,1,0,0,0,[]), (48,1,33,0,0,0,0,0,[]), (49,1,2,1,0,0,0,0,[]), (50,3,35,0,10,0,14,0,[1004]), (53,2,0,3,0,0,166,49152,[1253]), (55,1,1,1,2,0,0,0,[]), (56,1,8,0,0,0,0,0,[]), (57,1,0,0,0,0,0,0,[]), (58,1,33,0,0,0,0,0,[]), (59,1,47,0,0,0,0,0,[])]]
/-- MergeLineModel.addUnit(I)V -/
def cd_213 : List (List xI) := [[(0,1,2,1,0,0,0,0,[]), (1,3,35,0,10,0,14,0,[1004]), (4,2,0,1,0,0,0,9,[]), (6,1,32,0,0,0,0,0,[]), (7,1,0,0,0,0,0,1,[]), (8,1,9,0,0,0,0,0,[]), (9,1,4,1,2,0,0,0,[]), (10,1,2,1,0,0,0,0,[]), (11,3,35,0,10,0,14,0,[1004]), (14,2,0,3,0,0,167,49168,[1258]), (16,2,0,1,0,0,0,8,[]), (18,1,1,1,2,0,0,0,[]), (19,1,10,0,0,0,0,0,[]), (20,1,8,0,0,0,0,0,[]), (21,1,2,1,0,0,0,0,[]), (22,3,35,0,10,0,14,0,[1004]), (25,2,0,3,0,0,163,49104,[1250]), (27,1,1,1,2,0,0,0,[]), (28,1,8,0,0,0,0,0,[]), (29,1,32,0,0,0,0,0,[]), (30,1,8,0,0,0,0,0,[]), (31,1,1,1,1,0,0,0,[]), (32,1,33,0,0,0,0,0,[]), (33,1,2,1,0,0,0,0,[]), (34,3,35,0,10,0,14,0,[1004]), (37,2,0,3,0,0,163,49104,[1250]), (39,1,1,1,2,0,0,0,[]), (40,1,8,0,0,0,0,0,[]), (41,1,24,0,0,0,0,0,[]), (42,1,32,0,0,0,0,0,[]), (43,1,0,0,0,0,0,1,[]), (44,1,8,0,0,0,0,0,[]), (45,1,33,0,0,0,0,0,[]), (46,1,47,0,0,0,0,0,[])]]
/-- MergeLineModel.makeAlone(I)V -/
def cd_214 : List (List xI) := [[(0,1,2,1,0,0,0,0,[]), (1,1,1,1,1,0,0,0,[]), (2,3,40,10,209,2,168,0,[1222,1224,37]), (5,0,27,0,1,0,0,0,[])],
  [(5,3,29,0,4,0,0,0,[]), (8,1,2,1,0,0,0,0,[]), (9,1,0,0,0,0,0,(-1),[]), (10,3,41,10,212,2,171,0,[1246,1248,43]), (13,0,27,0,2,0,0,0,[])],
  [(13,1,2,1,0,0,0,0,[]), (14,1,1,1,1,0,0,0,[]), (15,3,41,10,213,2,175,0,[1254,1256,44]), (18,0,27,0,3,0,0,0,[])],
  [(18,3,26,0,5,0,0,0,[])],
  [(21,1,2,1,0,0,0,0,[]), (22,1,1,1,1,0,0,0,[]), (23,1,0,0,0,0,0,5,[]), (24,1,0,0,0,0,0,(-1),[]), (25,3,41,10,210,4,178,0,[1259,1261,45]), (28,0,27,0,5,0,0,0,[])],
  [(28,1,47,0,0,0,0,0,[])]]
/-- MergeLineModel.makeMany()V -/
def cd_215 : List (List xI) := [[(0,1,0,0,0,0,0,0,[]), (1,1,4,1,1,0,0,0,[]), (2,1,0,0,0,0,0,0,[]), (3,1,4,1,2,0,0,0,[]), (4,0,27,0,1,0,0,0,[])],
  [(4,1,1,1,2,0,0,0,[]), (5,1,2,1,0,0,0,0,[]), (6,3,35,0,10,0,14,0,[1004]), (9,2,0,1,0,0,0,8,[]), (11,1,32,0,0,0,0,0,[]), (12,3,28,0,5,3,0,0,[]), (15,1,2,1,0,0,0,0,[]), (16,3,35,0,10,0,14,0,[1004]), (19,2,0,3,0,0,133,49044,[1167]), (21,1,1,1,2,0,0,0,[]), (22,1,8,0,0,0,0,0,[]), (23,1,32,0,0,0,0,0,[]), (24,1,4,1,3,0,0,0,[]), (25,1,2,1,0,0,0,0,[]), (26,1,1,1,3,0,0,0,[]), (27,3,40,10,206,2,154,0,[1202,1204,32]), (30,0,27,0,2,0,0,0,[])],
  [(30,3,29,0,4,0,0,0,[]), (33,1,2,1,0,0,0,0,[]), (34,1,1,1,3,0,0,0,[]), (35,3,40,10,205,2,157,0,[1206,1208,33]), (38,0,27,0,3,0,0,0,[])],
  [(38,3,29,0,4,0,0,0,[]), (41,1,2,1,0,0,0,0,[]), (42,3,35,0,10,4,21,0,[1008]), (45,1,1,1,1,0,0,0,[]), (46,1,1,1,3,0,0,0,[]), (47,1,33,0,0,0,0,0,[]), (48,3,7,0,1,0,0,1,[]), (51,0,27,0,4,0,0,0,[])],
  [(51,3,7,0,2,0,0,1,[]), (54,3,26,0,1,0,0,0,[])],
  [(57,1,2,1,0,0,0,0,[]), (58,1,2,1,0,0,0,0,[]), (59,3,35,0,10,0,14,0,[1004]), (62,1,0,0,0,0,0,0,[]), (63,1,32,0,0,0,0,0,[]), (64,2,0,1,0,0,0,61,[]), (66,3,41,10,168,3,145,0,[1226,1228,38]), (69,0,27,0,6,0,0,0,[])],
  [(69,1,2,1,0,0,0,0,[]), (70,1,0,0,0,0,0,(-1),[]), (71,3,41,10,212,2,171,0,[1246,1248,43]), (74,0,27,0,7,0,0,0,[])],
  [(74,1,2,1,0,0,0,0,[]), (75,3,35,0,10,0,14,0,[1004]), (78,2,0,1,0,0,0,9,[]), (80,1,32,0,0,0,0,0,[]), (81,1,0,0,0,0,0,1,[]), (82,1,9,0,0,0,0,0,[]), (83,1,4,1,2,0,0,0,[]), (84,1,0,0,0,0,0,0,[]), (85,1,4,1,3,0,0,0,[]), (86,0,27,0,8,0,0,0,[])],
  [(86,1,1,1,3,0,0,0,[]), (87,1,1,1,1,0,0,0,[]), (88,3,28,0,15,3,0,0,[]), (91,1,2,1,0,0,0,0,[]), (92,3,35,0,10,0,14,0,[1004]), (95,2,0,3,0,0,163,49104,[1250]), (97,1,1,1,2,0,0,0,[]), (98,1,8,0,0,0,0,0,[]), (99,1,32,0,0,0,0,0,[]), (100,1,2,1,0,0,0,0,[]), (101,3,35,0,10,0,14,0,[1004]), (104,1,0,0,0,0,0,5,[]), (105,1,32,0,0,0,0,0,[]), (106,3,28,0,15,3,0,0,[]), (109,1,2,1,0,0,0,0,[]), (110,1,2,1,0,0,0,0,[]), (111,3,35,0,10,4,21,0,[1008]), (114,1,1,1,3,0,0,0,[]), (115,1,32,0,0,0,0,0,[]), (116,1,0,0,0,0,0,2,[]), (117,3,40,10,207,3,160,0,[1214,1216,35]), (120,0,27,0,9,0,0,0,[])],
  [(120,3,29,0,15,1,0,0,[]), (123,1,2,1,0,0,0,0,[]), (124,1,2,1,0,0,0,0,[]), (125,3,35,0,10,4,21,0,[1008]), (128,1,1,1,3,0,0,0,[]), (129,1,32,0,0,0,0,0,[]), (130,2,0,1,0,0,0,61,[]), (132,3,40,10,208,3,151,0,[1230,1232,39]), (135,0,27,0,10,0,0,0,[])],
  [(135,3,29,0,12,0,0,0,[]), (138,1,2,1,0,0,0,0,[]), (139,1,2,1,0,0,0,0,[]), (140,3,35,0,10,4,21,0,[1008]), (143,1,1,1,3,0,0,0,[]), (144,1,32,0,0,0,0,0,[]), (145,3,41,10,213,2,175,0,[1254,1256,44]), (148,0,27,0,11,0,0,0,[])],
  [(148,3,26,0,14,0,0,0,[])],
  [(151,1,2,1,0,0,0,0,[]), (152,1,2,1,0,0,0,0,[]), (153,3,35,0,10,4,21,0,[1008]), (156,1,1,1,3,0,0,0,[]), (157,1,32,0,0,0,0,0,[]), (158,3,40,10,209,2,168,0,[1222,1224,37]), (161,0,27,0,13,0,0,0,[])],
  [(161,3,29,0,14,1,0,0,[]), (164,1,2,1,0,0,0,0,[]), (165,1,2,1,0,0,0,0,[]), (166,3,35,0,10,4,21,0,[1008]), (169,1,1,1,3,0,0,0,[]), (170,1,32,0,0,0,0,0,[]), (171,1,0,0,0,0,0,5,[]), (172,1,0,0,0,0,0,(-1),[]), (173,3,41,10,210,4,178,0,[1259,1261,45]), (176,0,27,0,14,0,0,0,[])],
  [(176,3,7,0,3,0,0,1,[]), (179,3,26,0,8,0,0,0,[])],
  [(182,1,2,1,0,0,0,0,[]), (183,3,35,0,10,0,14,0,[1004]), (186,2,0,1,0,0,0,9,[]), (188,1,24,0,0,0,0,0,[]), (189,1,32,0,0,0,0,0,[]), (190,1,2,1,0,0,0,0,[]), (191,3,35,0,10,0,14,0,[1004]), (194,2,0,3,0,0,163,49104,[1250]), (196,1,1,1,2,0,0,0,[]), (197,1,8,0,0,0,0,0,[]), (198,1,32,0,0,0,0,0,[]), (199,3,29,0,16,1,0,0,[]), (202,1,0,0,0,0,0,1,[]), (203,3,26,0,17,0,0,0,[])],
  [(206,1,0,0,0,0,0,0,[]), (207,0,27,0,17,0,0,0,[])],
  [(207,1,9,0,0,0,0,0,[]), (208,1,33,0,0,0,0,0,[]), (209,1,47,0,0,0,0,0,[])]]
/-- MergeLineModel.makeBatch()Z -/
def cd_216 : List (List xI) := [[(0,1,2,1,0,0,0,0,[]), (1,1,0,0,0,0,0,(-1),[]), (2,3,40,10,211,2,182,0,[1198,1200,31]), (5,0,27,0,1,0,0,0,[])],
  [(5,1,4,1,1,0,0,0,[]), (6,0,27,0,2,0,0,0,[])],
  [(6,1,2,1,0,0,0,0,[]), (7,3,35,0,10,0,14,0,[1004]), (10,2,0,1,0,0,0,9,[]), (12,1,32,0,0,0,0,0,[]), (13,3,29,0,11,1,0,0,[]), (16,1,1,1,1,0,0,0,[]), (17,1,0,0,0,0,0,(-1),[]), (18,3,28,0,11,0,0,0,[]), (21,1,2,1,0,0,0,0,[]), (22,1,0,0,0,0,0,1,[]), (23,3,40,10,211,2,182,0,[1198,1200,31]), (26,0,27,0,3,0,0,0,[])],
  [(26,1,4,1,2,0,0,0,[]), (27,1,1,1,2,0,0,0,[]), (28,1,0,0,0,0,0,(-1),[]), (29,3,28,0,5,0,0,0,[]), (32,1,2,1,0,0,0,0,[]), (33,1,1,1,2,0,0,0,[]), (34,3,41,10,214,2,185,0,[1218,1220,36]), (37,0,27,0,4,0,0,0,[])],
  [(37,3,26,0,9,0,0,0,[])],
  [(40,1,2,1,0,0,0,0,[]), (41,1,1,1,1,0,0,0,[]), (42,1,0,0,0,0,0,2,[]), (43,3,40,10,207,3,160,0,[1214,1216,35]), (46,0,27,0,6,0,0,0,[])],
  [(46,3,29,0,8,0,0,0,[]), (49,1,2,1,0,0,0,0,[]), (50,1,1,1,1,0,0,0,[]), (51,3,41,10,214,2,185,0,[1218,1220,36]), (54,0,27,0,7,0,0,0,[])],
  [(54,3,26,0,9,0,0,0,[])],
  [(57,1,2,1,0,0,0,0,[]), (58,3,41,10,215,1,188,0,[1263,1265,46]), (61,0,27,0,9,0,0,0,[])],
  [(61,1,2,1,0,0,0,0,[]), (62,1,0,0,0,0,0,(-1),[]), (63,3,40,10,211,2,182,0,[1198,1200,31]), (66,0,27,0,10,0,0,0,[])],
  [(66,1,4,1,1,0,0,0,[]), (67,3,26,0,2,0,0,0,[])],
  [(70,1,2,1,0,0,0,0,[]), (71,3,35,0,10,0,14,0,[1004]), (74,2,0,1,0,0,0,9,[]), (76,1,32,0,0,0,0,0,[]), (77,3,29,0,12,5,0,0,[]), (80,1,0,0,0,0,0,1,[]), (81,3,26,0,13,0,0,0,[])],
  [(84,1,0,0,0,0,0,0,[]), (85,0,27,0,13,0,0,0,[])],
  [(85,1,46,0,1,0,0,0,[])]]
/-- MergeLineModel.lookThrough(I)V -/
def cd_217 : List (List xI) := [[(0,1,2,1,0,0,0,0,[]), (1,1,2,1,0,0,0,0,[]), (2,3,35,0,10,0,14,0,[1004]), (5,1,0,0,0,0,0,0,[]), (6,1,32,0,0,0,0,0,[]), (7,2,0,1,0,0,0,61,[]), (9,3,41,10,168,3,145,0,[1226,1228,38]), (12,0,27,0,1,0,0,0,[])],
  [(12,1,0,0,0,0,0,0,[]), (13,1,4,1,2,0,0,0,[]), (14,1,0,0,0,0,0,0,[]), (15,1,4,1,3,0,0,0,[]), (16,0,27,0,2,0,0,0,[])],
  [(16,1,1,1,3,0,0,0,[]), (17,1,2,1,0,0,0,0,[]), (18,3,35,0,10,0,14,0,[1004]), (21,2,0,3,0,0,163,49104,[1250]), (23,1,1,1,1,0,0,0,[]), (24,1,8,0,0,0,0,0,[]), (25,1,32,0,0,0,0,0,[]), (26,3,28,0,6,3,0,0,[]), (29,1,2,1,0,0,0,0,[]), (30,3,35,0,10,0,14,0,[1004]), (33,2,0,3,0,0,167,49168,[1258]), (35,2,0,1,0,0,0,8,[]), (37,1,1,1,1,0,0,0,[]), (38,1,10,0,0,0,0,0,[]), (39,1,8,0,0,0,0,0,[]), (40,1,1,1,3,0,0,0,[]), (41,1,8,0,0,0,0,0,[]), (42,1,32,0,0,0,0,0,[]), (43,2,4,0,4,0,0,0,[]), (45,1,2,1,0,0,0,0,[]), (46,2,1,0,4,0,0,0,[]), (48,3,40,10,205,2,157,0,[1206,1208,33]), (51,0,27,0,3,0,0,0,[])],
  [(51,3,29,0,5,0,0,0,[]), (54,1,2,1,0,0,0,0,[]), (55,2,1,0,4,0,0,0,[]), (57,2,0,1,0,0,0,61,[]), (59,3,40,10,208,3,151,0,[1230,1232,39]), (62,0,27,0,4,0,0,0,[])],
  [(62,3,29,0,5,0,0,0,[]), (65,1,2,1,0,0,0,0,[]), (66,3,35,0,10,0,14,0,[1004]), (69,2,0,3,0,0,167,49168,[1258]), (71,2,0,1,0,0,0,8,[]), (73,1,1,1,1,0,0,0,[]), (74,1,10,0,0,0,0,0,[]), (75,1,8,0,0,0,0,0,[]), (76,1,1,1,2,0,0,0,[]), (77,1,8,0,0,0,0,0,[]), (78,2,1,0,4,0,0,0,[]), (80,1,33,0,0,0,0,0,[]), (81,3,7,0,2,0,0,1,[]), (84,0,27,0,5,0,0,0,[])],
  [(84,3,7,0,3,0,0,1,[]), (87,3,26,0,2,0,0,0,[])],
  [(90,1,1,1,2,0,0,0,[]), (91,1,2,1,0,0,0,0,[]), (92,3,35,0,10,0,14,0,[1004]), (95,2,0,3,0,0,163,49104,[1250]), (97,1,1,1,1,0,0,0,[]), (98,1,8,0,0,0,0,0,[]), (99,1,32,0,0,0,0,0,[]), (100,3,28,0,7,3,0,0,[]), (103,1,2,1,0,0,0,0,[]), (104,3,35,0,10,0,14,0,[1004]), (107,2,0,3,0,0,164,49120,[1251]), (109,1,1,1,1,0,0,0,[]), (110,1,8,0,0,0,0,0,[]), (111,1,0,0,0,0,0,0,[]), (112,1,33,0,0,0,0,0,[]), (113,1,2,1,0,0,0,0,[]), (114,3,35,0,10,0,14,0,[1004]), (117,2,0,3,0,0,166,49152,[1253]), (119,1,1,1,1,0,0,0,[]), (120,1,8,0,0,0,0,0,[]), (121,1,0,0,0,0,0,0,[]), (122,1,33,0,0,0,0,0,[]), (123,1,2,1,0,0,0,0,[]), (124,3,35,0,10,0,14,0,[1004]), (127,2,0,3,0,0,163,49104,[1250]), (129,1,1,1,1,0,0,0,[]), (130,1,8,0,0,0,0,0,[]), (131,1,1,1,2,0,0,0,[]), (132,1,33,0,0,0,0,0,[]), (133,0,27,0,7,0,0,0,[])],
  [(133,1,47,0,0,0,0,0,[])]]
/-- MergeLineModel.cut(I)V -/
def cd_218 : List (List xI) := [[(0,1,2,1,0,0,0,0,[]), (1,3,35,0,10,0,14,0,[1004]), (4,2,0,3,0,0,163,49104,[1250]), (6,1,1,1,1,0,0,0,[]), (7,1,8,0,0,0,0,0,[]), (8,1,32,0,0,0,0,0,[]), (9,1,4,1,2,0,0,0,[]), (10,1,1,1,2,0,0,0,[]), (11,1,0,0,0,0,0,2,[]), (12,1,11,0,0,0,0,0,[]), (13,1,4,1,3,0,0,0,[]), (14,1,2,1,0,0,0,0,[]), (15,1,2,1,0,0,0,0,[]), (16,3,35,0,10,0,14,0,[1004]), (19,2,0,3,0,0,165,49136,[1252]), (21,1,1,1,1,0,0,0,[]), (22,1,8,0,0,0,0,0,[]), (23,1,32,0,0,0,0,0,[]), (24,3,41,10,212,2,171,0,[1246,1248,43]), (27,0,27,0,1,0,0,0,[])],
  [(27,1,0,0,0,0,0,0,[]), (28,2,4,0,4,0,0,0,[]), (30,0,27,0,2,0,0,0,[])],
  [(30,2,1,0,4,0,0,0,[]), (32,1,1,1,3,0,0,0,[]), (33,3,28,0,4,3,0,0,[]), (36,1,2,1,0,0,0,0,[]), (37,1,2,1,0,0,0,0,[]), (38,3,35,0,10,0,14,0,[1004]), (41,2,0,3,0,0,167,49168,[1258]), (43,2,0,1,0,0,0,8,[]), (45,1,1,1,1,0,0,0,[]), (46,1,10,0,0,0,0,0,[]), (47,1,8,0,0,0,0,0,[]), (48,2,1,0,4,0,0,0,[]), (50,1,8,0,0,0,0,0,[]), (51,1,32,0,0,0,0,0,[]), (52,3,41,10,213,2,175,0,[1254,1256,44]), (55,0,27,0,3,0,0,0,[])],
  [(55,3,7,0,4,0,0,1,[]), (58,3,26,0,2,0,0,0,[])],
  [(61,1,2,1,0,0,0,0,[]), (62,3,35,0,10,0,14,0,[1004]), (65,2,0,3,0,0,166,49152,[1253]), (67,1,1,1,1,0,0,0,[]), (68,1,8,0,0,0,0,0,[]), (69,1,0,0,0,0,0,1,[]), (70,1,8,0,0,0,0,0,[]), (71,1,0,0,0,0,0,1,[]), (72,1,33,0,0,0,0,0,[]), (73,1,1,1,3,0,0,0,[]), (74,2,4,0,4,0,0,0,[]), (76,0,27,0,5,0,0,0,[])],
  [(76,2,1,0,4,0,0,0,[]), (78,1,1,1,2,0,0,0,[]), (79,3,28,0,6,3,0,0,[]), (82,1,2,1,0,0,0,0,[]), (83,3,35,0,10,0,14,0,[1004]), (86,2,0,3,0,0,167,49168,[1258]), (88,2,0,1,0,0,0,8,[]), (90,1,1,1,1,0,0,0,[]), (91,1,10,0,0,0,0,0,[]), (92,1,8,0,0,0,0,0,[]), (93,2,1,0,4,0,0,0,[]), (95,1,8,0,0,0,0,0,[]), (96,1,1,1,3,0,0,0,[]), (97,1,9,0,0,0,0,0,[]), (98,1,2,1,0,0,0,0,[]), (99,3,35,0,10,0,14,0,[1004]), (102,2,0,3,0,0,167,49168,[1258]), (104,2,0,1,0,0,0,8,[]), (106,1,1,1,1,0,0,0,[]), (107,1,10,0,0,0,0,0,[]), (108,1,8,0,0,0,0,0,[]), (109,2,1,0,4,0,0,0,[]), (111,1,8,0,0,0,0,0,[]), (112,1,32,0,0,0,0,0,[]), (113,1,33,0,0,0,0,0,[]), (114,3,7,0,4,0,0,1,[]), (117,3,26,0,5,0,0,0,[])],
  [(120,1,2,1,0,0,0,0,[]), (121,3,35,0,10,0,14,0,[1004]), (124,2,0,3,0,0,163,49104,[1250]), (126,1,1,1,1,0,0,0,[]), (127,1,8,0,0,0,0,0,[]), (128,1,1,1,2,0,0,0,[]), (129,1,1,1,3,0,0,0,[]), (130,1,9,0,0,0,0,0,[]), (131,1,33,0,0,0,0,0,[]), (132,1,2,1,0,0,0,0,[]), (133,3,35,0,10,0,14,0,[1004]), (136,2,0,3,0,0,164,49120,[1251]), (138,1,1,1,1,0,0,0,[]), (139,1,8,0,0,0,0,0,[]), (140,1,0,0,0,0,0,0,[]), (141,1,33,0,0,0,0,0,[]), (142,1,2,1,0,0,0,0,[]), (143,3,35,0,10,0,14,0,[1004]), (146,2,0,3,0,0,166,49152,[1253]), (148,1,1,1,1,0,0,0,[]), (149,1,8,0,0,0,0,0,[]), (150,1,0,0,0,0,0,0,[]), (151,1,33,0,0,0,0,0,[]), (152,1,47,0,0,0,0,0,[])]]
/-- MergeLineModel.changesOf(I)I -/
def cd_219 : List (List xI) := [[(0,1,0,0,0,0,0,0,[]), (1,1,4,1,2,0,0,0,[]), (2,1,0,0,0,0,0,0,[]), (3,1,4,1,3,0,0,0,[]), (4,0,27,0,1,0,0,0,[])],
  [(4,1,1,1,3,0,0,0,[]), (5,1,2,1,0,0,0,0,[]), (6,3,35,0,10,0,14,0,[1004]), (9,2,0,3,0,0,163,49104,[1250]), (11,1,1,1,1,0,0,0,[]), (12,1,8,0,0,0,0,0,[]), (13,1,32,0,0,0,0,0,[]), (14,3,28,0,3,3,0,0,[]), (17,1,2,1,0,0,0,0,[]), (18,3,35,0,10,0,14,0,[1004]), (21,2,0,3,0,0,167,49168,[1258]), (23,2,0,1,0,0,0,8,[]), (25,1,1,1,1,0,0,0,[]), (26,1,10,0,0,0,0,0,[]), (27,1,8,0,0,0,0,0,[]), (28,1,1,1,3,0,0,0,[]), (29,1,8,0,0,0,0,0,[]), (30,1,32,0,0,0,0,0,[]), (31,2,4,0,4,0,0,0,[]), (33,1,2,1,0,0,0,0,[]), (34,3,35,0,10,5,24,0,[1009]), (37,1,1,1,2,0,0,0,[]), (38,2,1,0,4,0,0,0,[]), (40,1,33,0,0,0,0,0,[]), (41,3,7,0,2,0,0,1,[]), (44,1,2,1,0,0,0,0,[]), (45,3,35,0,10,0,14,0,[1004]), (48,2,0,3,0,0,84,41964,[1103]), (50,2,1,0,4,0,0,0,[]), (52,1,8,0,0,0,0,0,[]), (53,1,32,0,0,0,0,0,[]), (54,1,0,0,0,0,0,(-1),[]), (55,3,28,0,2,0,0,0,[]), (58,1,2,1,0,0,0,0,[]), (59,3,35,0,10,5,24,0,[1009]), (62,1,1,1,2,0,0,0,[]), (63,1,2,1,0,0,0,0,[]), (64,3,35,0,10,0,14,0,[1004]), (67,2,0,3,0,0,84,41964,[1103]), (69,2,1,0,4,0,0,0,[]), (71,1,8,0,0,0,0,0,[]), (72,1,32,0,0,0,0,0,[]), (73,1,33,0,0,0,0,0,[]), (74,3,7,0,2,0,0,1,[]), (77,0,27,0,2,0,0,0,[])],
  [(77,3,7,0,3,0,0,1,[]), (80,3,26,0,1,0,0,0,[])],
  [(83,1,1,1,2,0,0,0,[]), (84,1,46,0,0,0,0,0,[])]]
/-- MergeLineModel.run(I)V -/
def cd_220 : List (List xI) := [[(0,1,2,1,0,0,0,0,[]), (1,1,1,1,1,0,0,0,[]), (2,3,40,10,219,2,191,0,[1275,1277,49]), (5,0,27,0,1,0,0,0,[])],
  [(5,1,4,1,2,0,0,0,[]), (6,1,0,0,0,0,0,(-1),[]), (7,1,4,1,3,0,0,0,[]), (8,1,0,0,0,0,0,0,[]), (9,2,4,0,4,0,0,0,[]), (11,0,27,0,2,0,0,0,[])],
  [(11,2,1,0,4,0,0,0,[]), (13,1,2,1,0,0,0,0,[]), (14,3,35,0,10,0,14,0,[1004]), (17,2,0,1,0,0,0,6,[]), (19,1,32,0,0,0,0,0,[]), (20,3,28,0,12,3,0,0,[]), (23,1,1,1,3,0,0,0,[]), (24,1,0,0,0,0,0,(-1),[]), (25,3,28,0,12,1,0,0,[]), (28,1,0,0,0,0,0,0,[]), (29,2,4,0,5,0,0,0,[]), (31,1,0,0,0,0,0,0,[]), (32,2,4,0,6,0,0,0,[]), (34,0,27,0,3,0,0,0,[])],
  [(34,2,1,0,6,0,0,0,[]), (36,1,1,1,2,0,0,0,[]), (37,3,28,0,8,3,0,0,[]), (40,2,1,0,5,0,0,0,[]), (42,3,29,0,5,1,0,0,[]), (45,1,2,1,0,0,0,0,[]), (46,1,2,1,0,0,0,0,[]), (47,3,35,0,10,5,24,0,[1009]), (50,2,1,0,6,0,0,0,[]), (52,1,32,0,0,0,0,0,[]), (53,2,1,0,4,0,0,0,[]), (55,3,40,10,196,3,130,0,[1155,1157,26]), (58,0,27,0,4,0,0,0,[])],
  [(58,3,29,0,6,0,0,0,[]), (61,0,27,0,5,0,0,0,[])],
  [(61,1,0,0,0,0,0,1,[]), (62,3,26,0,7,0,0,0,[])],
  [(65,1,0,0,0,0,0,0,[]), (66,0,27,0,7,0,0,0,[])],
  [(66,2,4,0,5,0,0,0,[]), (68,3,7,0,6,0,0,1,[]), (71,3,26,0,3,0,0,0,[])],
  [(74,2,1,0,5,0,0,0,[]), (76,3,29,0,10,0,0,0,[]), (79,1,2,1,0,0,0,0,[]), (80,2,1,0,4,0,0,0,[]), (82,2,0,1,0,0,0,61,[]), (84,3,40,10,180,3,194,0,[1279,1281,50]), (87,0,27,0,9,0,0,0,[])],
  [(87,3,29,0,10,1,0,0,[]), (90,2,1,0,4,0,0,0,[]), (92,3,26,0,11,0,0,0,[])],
  [(95,1,0,0,0,0,0,(-1),[]), (96,0,27,0,11,0,0,0,[])],
  [(96,1,4,1,3,0,0,0,[]), (97,3,7,0,4,0,0,1,[]), (100,3,26,0,2,0,0,0,[])],
  [(103,1,18,0,0,0,0,0,[]), (104,2,6,0,4,0,0,0,[]), (106,1,18,0,0,0,0,1,[]), (107,2,6,0,6,0,0,0,[]), (109,1,0,0,0,0,0,0,[]), (110,2,4,0,8,0,0,0,[]), (112,0,27,0,13,0,0,0,[])],
  [(112,2,1,0,8,0,0,0,[]), (114,1,1,1,2,0,0,0,[]), (115,3,28,0,14,3,0,0,[]), (118,2,3,0,4,0,0,0,[]), (120,1,2,1,0,0,0,0,[]), (121,3,35,0,10,5,24,0,[1009]), (124,2,1,0,8,0,0,0,[]), (126,1,32,0,0,0,0,0,[]), (127,1,0,0,0,0,0,1,[]), (128,1,8,0,0,0,0,0,[]), (129,1,16,0,0,0,0,0,[]), (130,2,3,0,6,0,0,0,[]), (132,1,21,0,0,0,0,0,[]), (133,1,20,0,0,0,0,0,[]), (134,3,18,1,0,0,197,1000003,[1284]), (137,1,22,0,0,0,0,0,[]), (138,2,6,0,4,0,0,0,[]), (140,2,3,0,6,0,0,0,[]), (142,3,18,1,0,0,199,61,[1285]), (145,1,21,0,0,0,0,0,[]), (146,3,18,1,0,0,197,1000003,[1284]), (149,1,22,0,0,0,0,0,[]), (150,2,6,0,6,0,0,0,[]), (152,3,7,0,8,0,0,1,[]), (155,3,26,0,13,0,0,0,[])],
  [(158,1,0,0,0,0,0,4,[]), (159,1,2,1,0,0,0,0,[]), (160,3,35,0,10,0,14,0,[1004]), (163,2,0,1,0,0,0,10,[]), (165,1,32,0,0,0,0,0,[]), (166,1,10,0,0,0,0,0,[]), (167,2,4,0,8,0,0,0,[]), (169,1,2,1,0,0,0,0,[]), (170,3,35,0,10,0,14,0,[1004]), (173,2,0,1,0,0,0,10,[]), (175,1,24,0,0,0,0,0,[]), (176,1,32,0,0,0,0,0,[]), (177,1,0,0,0,0,0,1,[]), (178,1,8,0,0,0,0,0,[]), (179,1,33,0,0,0,0,0,[]), (180,1,0,0,0,0,0,0,[]), (181,2,4,0,9,0,0,0,[]), (183,0,27,0,15,0,0,0,[])],
  [(183,2,1,0,9,0,0,0,[]), (185,1,0,0,0,0,0,2,[]), (186,3,28,0,18,3,0,0,[]), (189,2,1,0,9,0,0,0,[]), (191,3,29,0,16,1,0,0,[]), (194,2,0,3,0,0,201,49296,[1286]), (196,3,26,0,17,0,0,0,[])],
  [(199,2,0,3,0,0,202,51696,[1287]), (201,0,27,0,17,0,0,0,[])],
  [(201,2,1,0,8,0,0,0,[]), (203,1,8,0,0,0,0,0,[]), (204,2,4,0,10,0,0,0,[]), (206,1,2,1,0,0,0,0,[]), (207,3,35,0,10,0,14,0,[1004]), (210,2,1,0,10,0,0,0,[]), (212,1,2,1,0,0,0,0,[]), (213,3,35,0,10,0,14,0,[1004]), (216,1,0,0,0,0,0,0,[]), (217,1,32,0,0,0,0,0,[]), (218,1,33,0,0,0,0,0,[]), (219,1,2,1,0,0,0,0,[]), (220,3,35,0,10,0,14,0,[1004]), (223,2,1,0,10,0,0,0,[]), (225,1,0,0,0,0,0,1,[]), (226,1,8,0,0,0,0,0,[]), (227,1,1,1,2,0,0,0,[]), (228,1,33,0,0,0,0,0,[]), (229,1,2,1,0,0,0,0,[]), (230,3,35,0,10,0,14,0,[1004]), (233,2,1,0,10,0,0,0,[]), (235,1,0,0,0,0,0,2,[]), (236,1,8,0,0,0,0,0,[]), (237,2,3,0,4,0,0,0,[]), (239,1,17,0,0,0,0,0,[]), (240,1,33,0,0,0,0,0,[]), (241,1,2,1,0,0,0,0,[]), (242,3,35,0,10,0,14,0,[1004]), (245,2,1,0,10,0,0,0,[]), (247,1,0,0,0,0,0,3,[]), (248,1,8,0,0,0,0,0,[]), (249,1,1,1,3,0,0,0,[]), (250,1,33,0,0,0,0,0,[]), (251,3,7,0,9,0,0,1,[]), (254,3,26,0,15,0,0,0,[])],
  [(257,1,1,1,3,0,0,0,[]), (258,1,0,0,0,0,0,(-1),[]), (259,3,28,0,19,0,0,0,[]), (262,1,2,1,0,0,0,0,[]), (263,3,35,0,10,0,14,0,[1004]), (266,2,0,3,0,0,164,49120,[1251]), (268,1,1,1,1,0,0,0,[]), (269,1,8,0,0,0,0,0,[]), (270,1,0,0,0,0,0,1,[]), (271,1,33,0,0,0,0,0,[]), (272,1,2,1,0,0,0,0,[]), (273,3,35,0,10,0,14,0,[1004]), (276,2,0,3,0,0,165,49136,[1252]), (278,1,1,1,1,0,0,0,[]), (279,1,8,0,0,0,0,0,[]), (280,1,1,1,3,0,0,0,[]), (281,1,33,0,0,0,0,0,[]), (282,1,47,0,0,0,0,0,[])],
  [(283,1,2,1,0,0,0,0,[]), (284,2,0,1,0,0,0,61,[]), (286,1,2,1,0,0,0,0,[]), (287,3,35,0,10,0,14,0,[1004]), (290,1,0,0,0,0,0,0,[]), (291,1,32,0,0,0,0,0,[]), (292,1,0,0,0,0,0,1,[]), (293,1,8,0,0,0,0,0,[]), (294,3,41,10,168,3,145,0,[1226,1228,38]), (297,0,27,0,20,0,0,0,[])],
  [(297,1,2,1,0,0,0,0,[]), (298,3,35,0,10,0,14,0,[1004]), (301,1,0,0,0,0,0,0,[]), (302,1,24,0,0,0,0,0,[]), (303,1,32,0,0,0,0,0,[]), (304,1,0,0,0,0,0,1,[]), (305,1,8,0,0,0,0,0,[]), (306,1,33,0,0,0,0,0,[]), (307,1,0,0,0,0,0,0,[]), (308,2,4,0,9,0,0,0,[]), (310,0,27,0,21,0,0,0,[])],
  [(310,2,1,0,9,0,0,0,[]), (312,1,1,1,2,0,0,0,[]), (313,3,28,0,23,3,0,0,[]), (316,1,2,1,0,0,0,0,[]), (317,1,2,1,0,0,0,0,[]), (318,3,35,0,10,5,24,0,[1009]), (321,2,1,0,9,0,0,0,[]), (323,1,32,0,0,0,0,0,[]), (324,1,0,0,0,0,0,4,[]), (325,3,41,10,200,3,137,0,[1172,1174,28]), (328,0,27,0,22,0,0,0,[])],
  [(328,1,2,1,0,0,0,0,[]), (329,3,35,0,10,0,14,0,[1004]), (332,2,0,3,0,0,81,41784,[1100]), (334,1,2,1,0,0,0,0,[]), (335,3,35,0,10,5,24,0,[1009]), (338,2,1,0,9,0,0,0,[]), (340,1,32,0,0,0,0,0,[]), (341,1,8,0,0,0,0,0,[]), (342,1,2,1,0,0,0,0,[]), (343,3,35,0,10,0,14,0,[1004]), (346,1,0,0,0,0,0,0,[]), (347,1,32,0,0,0,0,0,[]), (348,1,33,0,0,0,0,0,[]), (349,3,7,0,9,0,0,1,[]), (352,3,26,0,21,0,0,0,[])],
  [(355,1,2,1,0,0,0,0,[]), (356,3,35,0,10,0,14,0,[1004]), (359,2,0,1,0,0,0,9,[]), (361,1,24,0,0,0,0,0,[]), (362,1,32,0,0,0,0,0,[]), (363,1,0,0,0,0,0,1,[]), (364,1,9,0,0,0,0,0,[]), (365,1,33,0,0,0,0,0,[]), (366,1,2,1,0,0,0,0,[]), (367,3,35,0,10,0,14,0,[1004]), (370,2,0,3,0,0,166,49152,[1253]), (372,1,1,1,1,0,0,0,[]), (373,1,8,0,0,0,0,0,[]), (374,1,32,0,0,0,0,0,[]), (375,1,0,0,0,0,0,1,[]), (376,3,28,0,24,1,0,0,[]), (379,1,2,1,0,0,0,0,[]), (380,3,35,0,10,0,14,0,[1004]), (383,2,0,3,0,0,164,49120,[1251]), (385,1,1,1,1,0,0,0,[]), (386,1,8,0,0,0,0,0,[]), (387,1,0,0,0,0,0,1,[]), (388,1,9,0,0,0,0,0,[]), (389,1,0,0,0,0,0,1,[]), (390,1,33,0,0,0,0,0,[]), (391,0,27,0,24,0,0,0,[])],
  [(391,1,47,0,0,0,0,0,[])]]
/-- MergeLineModel.go(I)I -/
def cd_221 : List (List xI) := [[(0,1,2,1,0,0,0,0,[]), (1,1,0,0,0,0,0,0,[]), (2,3,36,0,10,3,1,0,[1007]), (5,1,1,1,1,0,0,0,[]), (6,1,16,0,0,0,0,0,[]), (7,1,18,0,0,0,0,1,[]), (8,3,18,1,0,0,203,10,[1193]), (11,3,42,0,164,3,37,0,[1031,1032]), (14,0,27,0,1,0,0,0,[])],
  [(14,3,29,0,2,1,0,0,[]), (17,2,0,1,0,0,0,(-2),[]), (19,1,46,0,0,0,0,0,[])],
  [(20,1,2,1,0,0,0,0,[]), (21,3,35,0,10,0,14,0,[1004]), (24,2,0,1,0,0,0,10,[]), (26,1,32,0,0,0,0,0,[]), (27,1,1,1,1,0,0,0,[]), (28,1,8,0,0,0,0,0,[]), (29,3,0,2,0,0,0,600,[]), (32,3,28,0,3,5,0,0,[]), (35,2,0,1,0,0,0,(-4),[]), (37,1,46,0,0,0,0,0,[])],
  [(38,1,2,1,0,0,0,0,[]), (39,3,35,0,10,0,14,0,[1004]), (42,2,0,1,0,0,0,10,[]), (44,1,32,0,0,0,0,0,[]), (45,1,4,1,2,0,0,0,[]), (46,1,0,0,0,0,0,1,[]), (47,1,4,1,3,0,0,0,[]), (48,0,27,0,4,0,0,0,[])],
  [(48,1,1,1,3,0,0,0,[]), (49,3,29,0,16,0,0,0,[]), (52,1,2,1,0,0,0,0,[]), (53,3,35,0,10,0,14,0,[1004]), (56,2,0,1,0,0,0,10,[]), (58,1,32,0,0,0,0,0,[]), (59,1,1,1,2,0,0,0,[]), (60,1,1,1,1,0,0,0,[]), (61,1,8,0,0,0,0,0,[]), (62,3,28,0,16,3,0,0,[]), (65,1,2,1,0,0,0,0,[]), (66,3,35,0,10,0,14,0,[1004]), (69,2,0,1,0,0,0,9,[]), (71,1,32,0,0,0,0,0,[]), (72,3,29,0,6,4,0,0,[]), (75,1,2,1,0,0,0,0,[]), (76,3,40,10,216,1,205,0,[1194,1196,30]), (79,0,27,0,5,0,0,0,[])],
  [(79,3,29,0,7,0,0,0,[]), (82,0,27,0,6,0,0,0,[])],
  [(82,1,0,0,0,0,0,1,[]), (83,3,26,0,8,0,0,0,[])],
  [(86,1,0,0,0,0,0,0,[]), (87,0,27,0,8,0,0,0,[])],
  [(87,1,4,1,3,0,0,0,[]), (88,1,2,1,0,0,0,0,[]), (89,3,35,0,10,0,14,0,[1004]), (92,2,0,1,0,0,0,9,[]), (94,1,32,0,0,0,0,0,[]), (95,1,0,0,0,0,0,1,[]), (96,1,9,0,0,0,0,0,[]), (97,2,4,0,4,0,0,0,[]), (99,1,1,1,3,0,0,0,[]), (100,3,29,0,15,0,0,0,[]), (103,1,2,1,0,0,0,0,[]), (104,2,1,0,4,0,0,0,[]), (106,3,41,10,217,2,209,0,[1267,1269,47]), (109,0,27,0,9,0,0,0,[])],
  [(109,1,2,1,0,0,0,0,[]), (110,3,35,0,10,0,14,0,[1004]), (113,2,0,3,0,0,163,49104,[1250]), (115,2,1,0,4,0,0,0,[]), (117,1,8,0,0,0,0,0,[]), (118,1,32,0,0,0,0,0,[]), (119,3,29,0,10,1,0,0,[]), (122,1,2,1,0,0,0,0,[]), (123,3,35,0,10,0,14,0,[1004]), (126,2,0,1,0,0,0,9,[]), (128,1,24,0,0,0,0,0,[]), (129,1,32,0,0,0,0,0,[]), (130,1,0,0,0,0,0,1,[]), (131,1,9,0,0,0,0,0,[]), (132,1,33,0,0,0,0,0,[]), (133,3,26,0,15,0,0,0,[])],
  [(136,1,2,1,0,0,0,0,[]), (137,3,35,0,10,0,14,0,[1004]), (140,2,0,3,0,0,164,49120,[1251]), (142,2,1,0,4,0,0,0,[]), (144,1,8,0,0,0,0,0,[]), (145,1,32,0,0,0,0,0,[]), (146,3,29,0,12,1,0,0,[]), (149,1,2,1,0,0,0,0,[]), (150,2,1,0,4,0,0,0,[]), (152,3,41,10,220,2,212,0,[1271,1273,48]), (155,0,27,0,11,0,0,0,[])],
  [(155,3,26,0,15,0,0,0,[])],
  [(158,1,2,1,0,0,0,0,[]), (159,3,35,0,10,0,14,0,[1004]), (162,2,0,3,0,0,163,49104,[1250]), (164,2,1,0,4,0,0,0,[]), (166,1,8,0,0,0,0,0,[]), (167,1,32,0,0,0,0,0,[]), (168,1,0,0,0,0,0,1,[]), (169,3,28,0,14,5,0,0,[]), (172,1,2,1,0,0,0,0,[]), (173,2,1,0,4,0,0,0,[]), (175,3,41,10,218,2,215,0,[1288,1290,51]), (178,0,27,0,13,0,0,0,[])],
  [(178,3,26,0,15,0,0,0,[])],
  [(181,1,2,1,0,0,0,0,[]), (182,3,35,0,10,0,14,0,[1004]), (185,2,0,1,0,0,0,9,[]), (187,1,24,0,0,0,0,0,[]), (188,1,32,0,0,0,0,0,[]), (189,1,0,0,0,0,0,1,[]), (190,1,9,0,0,0,0,0,[]), (191,1,33,0,0,0,0,0,[]), (192,1,2,1,0,0,0,0,[]), (193,1,2,1,0,0,0,0,[]), (194,3,35,0,10,0,14,0,[1004]), (197,2,0,3,0,0,167,49168,[1258]), (199,2,0,1,0,0,0,8,[]), (201,2,1,0,4,0,0,0,[]), (203,1,10,0,0,0,0,0,[]), (204,1,8,0,0,0,0,0,[]), (205,1,32,0,0,0,0,0,[]), (206,2,0,1,0,0,0,6,[]), (208,1,2,1,0,0,0,0,[]), (209,3,35,0,10,0,14,0,[1004]), (212,2,0,3,0,0,165,49136,[1252]), (214,2,1,0,4,0,0,0,[]), (216,1,8,0,0,0,0,0,[]), (217,1,32,0,0,0,0,0,[]), (218,3,41,10,210,4,178,0,[1259,1261,45]), (221,0,27,0,15,0,0,0,[])],
  [(221,3,26,0,4,0,0,0,[])],
  [(224,1,2,1,0,0,0,0,[]), (225,3,35,0,10,0,14,0,[1004]), (228,2,0,1,0,0,0,10,[]), (230,1,32,0,0,0,0,0,[]), (231,1,1,1,2,0,0,0,[]), (232,1,9,0,0,0,0,0,[]), (233,1,46,0,0,0,0,0,[])]]
/-- MergeLineModel.isInWork(I)Z -/
def cd_222 : List (List xI) := [[(0,1,0,0,0,0,0,0,[]), (1,1,4,1,2,0,0,0,[]), (2,1,0,0,0,0,0,0,[]), (3,1,4,1,3,0,0,0,[]), (4,0,27,0,1,0,0,0,[])],
  [(4,1,1,1,3,0,0,0,[]), (5,1,2,1,0,0,0,0,[]), (6,3,35,0,10,0,14,0,[1004]), (9,2,0,1,0,0,0,9,[]), (11,1,32,0,0,0,0,0,[]), (12,3,28,0,8,3,0,0,[]), (15,1,2,1,0,0,0,0,[]), (16,1,1,1,3,0,0,0,[]), (17,3,40,10,219,2,191,0,[1275,1277,49]), (20,0,27,0,2,0,0,0,[])],
  [(20,2,4,0,4,0,0,0,[]), (22,1,0,0,0,0,0,0,[]), (23,2,4,0,5,0,0,0,[]), (25,0,27,0,3,0,0,0,[])],
  [(25,2,1,0,5,0,0,0,[]), (27,2,1,0,4,0,0,0,[]), (29,3,28,0,7,3,0,0,[]), (32,1,1,1,2,0,0,0,[]), (33,3,29,0,4,1,0,0,[]), (36,1,2,1,0,0,0,0,[]), (37,3,35,0,10,5,24,0,[1009]), (40,2,1,0,5,0,0,0,[]), (42,1,32,0,0,0,0,0,[]), (43,1,1,1,1,0,0,0,[]), (44,3,28,0,5,1,0,0,[]), (47,0,27,0,4,0,0,0,[])],
  [(47,1,0,0,0,0,0,1,[]), (48,3,26,0,6,0,0,0,[])],
  [(51,1,0,0,0,0,0,0,[]), (52,0,27,0,6,0,0,0,[])],
  [(52,1,4,1,2,0,0,0,[]), (53,3,7,0,5,0,0,1,[]), (56,3,26,0,3,0,0,0,[])],
  [(59,3,7,0,3,0,0,1,[]), (62,3,26,0,1,0,0,0,[])],
  [(65,1,1,1,2,0,0,0,[]), (66,1,46,0,1,0,0,0,[])]]
/-- MergeLineModel.about(II)I -/
def cd_223 : List (List xI) := [[(0,1,2,1,0,0,0,0,[]), (1,1,0,0,0,0,0,0,[]), (2,3,36,0,10,3,1,0,[1007]), (5,1,2,1,0,0,0,0,[]), (6,1,1,1,1,0,0,0,[]), (7,3,40,10,181,2,93,0,[1109,1111,21]), (10,0,27,0,1,0,0,0,[])],
  [(10,3,29,0,3,0,0,0,[]), (13,1,1,1,2,0,0,0,[]), (14,1,16,0,0,0,0,0,[]), (15,1,18,0,0,0,0,0,[]), (16,3,18,1,0,0,218,5,[1296]), (19,3,42,0,164,3,37,0,[1031,1032]), (22,0,27,0,2,0,0,0,[])],
  [(22,3,29,0,4,1,0,0,[]), (25,0,27,0,3,0,0,0,[])],
  [(25,2,0,1,0,0,0,(-2),[]), (27,1,46,0,0,0,0,0,[])],
  [(28,1,1,1,2,0,0,0,[]), (29,1,0,0,0,0,0,1,[]), (30,3,28,0,11,1,0,0,[]), (33,1,2,1,0,0,0,0,[]), (34,3,35,0,10,0,14,0,[1004]), (37,2,0,3,0,0,80,41724,[1099]), (39,1,1,1,1,0,0,0,[]), (40,1,8,0,0,0,0,0,[]), (41,1,32,0,0,0,0,0,[]), (42,1,4,1,3,0,0,0,[]), (43,1,1,1,3,0,0,0,[]), (44,1,0,0,0,0,0,1,[]), (45,3,28,0,5,0,0,0,[]), (48,1,1,1,3,0,0,0,[]), (49,3,26,0,10,0,0,0,[])],
  [(52,1,2,1,0,0,0,0,[]), (53,1,1,1,1,0,0,0,[]), (54,3,40,10,222,2,220,0,[1297,1299,52]), (57,0,27,0,6,0,0,0,[])],
  [(57,3,29,0,7,0,0,0,[]), (60,1,0,0,0,0,0,3,[]), (61,3,26,0,10,0,0,0,[])],
  [(64,1,2,1,0,0,0,0,[]), (65,1,1,1,1,0,0,0,[]), (66,3,40,10,205,2,157,0,[1206,1208,33]), (69,0,27,0,8,0,0,0,[])],
  [(69,3,29,0,9,0,0,0,[]), (72,1,0,0,0,0,0,1,[]), (73,3,26,0,10,0,0,0,[])],
  [(76,1,0,0,0,0,0,2,[]), (77,0,27,0,10,0,0,0,[])],
  [(77,1,46,0,0,0,0,0,[])],
  [(78,1,1,1,2,0,0,0,[]), (79,3,29,0,12,1,0,0,[]), (82,1,2,1,0,0,0,0,[]), (83,3,35,0,10,0,14,0,[1004]), (86,2,0,3,0,0,78,41604,[1097]), (88,1,1,1,1,0,0,0,[]), (89,1,8,0,0,0,0,0,[]), (90,1,32,0,0,0,0,0,[]), (91,3,26,0,16,0,0,0,[])],
  [(94,1,1,1,2,0,0,0,[]), (95,1,0,0,0,0,0,2,[]), (96,3,28,0,13,1,0,0,[]), (99,1,2,1,0,0,0,0,[]), (100,3,35,0,10,0,14,0,[1004]), (103,2,0,3,0,0,81,41784,[1100]), (105,1,1,1,1,0,0,0,[]), (106,1,8,0,0,0,0,0,[]), (107,1,32,0,0,0,0,0,[]), (108,3,26,0,16,0,0,0,[])],
  [(111,1,1,1,2,0,0,0,[]), (112,1,0,0,0,0,0,3,[]), (113,3,28,0,14,1,0,0,[]), (116,1,2,1,0,0,0,0,[]), (117,3,35,0,10,0,14,0,[1004]), (120,2,0,3,0,0,82,41844,[1101]), (122,1,1,1,1,0,0,0,[]), (123,1,8,0,0,0,0,0,[]), (124,1,32,0,0,0,0,0,[]), (125,3,26,0,16,0,0,0,[])],
  [(128,1,1,1,2,0,0,0,[]), (129,1,0,0,0,0,0,4,[]), (130,3,28,0,15,1,0,0,[]), (133,1,2,1,0,0,0,0,[]), (134,3,35,0,10,0,14,0,[1004]), (137,2,0,3,0,0,83,41904,[1102]), (139,1,1,1,1,0,0,0,[]), (140,1,8,0,0,0,0,0,[]), (141,1,32,0,0,0,0,0,[]), (142,3,26,0,16,0,0,0,[])],
  [(145,1,2,1,0,0,0,0,[]), (146,3,35,0,10,0,14,0,[1004]), (149,2,0,3,0,0,84,41964,[1103]), (151,1,1,1,1,0,0,0,[]), (152,1,8,0,0,0,0,0,[]), (153,1,32,0,0,0,0,0,[]), (154,0,27,0,16,0,0,0,[])],
  [(154,1,46,0,0,0,0,0,[])]]
/-- MergeLineModel.inLine(I)I -/
def cd_224 : List (List xI) := [[(0,1,2,1,0,0,0,0,[]), (1,1,0,0,0,0,0,0,[]), (2,3,36,0,10,3,1,0,[1007]), (5,1,1,1,1,0,0,0,[]), (6,1,16,0,0,0,0,0,[]), (7,1,18,0,0,0,0,0,[]), (8,1,2,1,0,0,0,0,[]), (9,3,35,0,10,0,14,0,[1004]), (12,2,0,1,0,0,0,8,[]), (14,1,32,0,0,0,0,0,[]), (15,1,0,0,0,0,0,1,[]), (16,1,9,0,0,0,0,0,[]), (17,1,16,0,0,0,0,0,[]), (18,3,42,0,164,3,37,0,[1031,1032]), (21,0,27,0,1,0,0,0,[])],
  [(21,3,29,0,2,0,0,0,[]), (24,1,2,1,0,0,0,0,[]), (25,3,35,0,10,0,14,0,[1004]), (28,2,0,3,0,0,133,49044,[1167]), (30,1,1,1,1,0,0,0,[]), (31,1,8,0,0,0,0,0,[]), (32,1,32,0,0,0,0,0,[]), (33,3,26,0,3,0,0,0,[])],
  [(36,1,0,0,0,0,0,(-1),[]), (37,0,27,0,3,0,0,0,[])],
  [(37,1,46,0,0,0,0,0,[])]]
/-- MergeLineModel.inWork(I)I -/
def cd_225 : List (List xI) := [[(0,1,2,1,0,0,0,0,[]), (1,1,0,0,0,0,0,0,[]), (2,3,36,0,10,3,1,0,[1007]), (5,1,1,1,1,0,0,0,[]), (6,1,4,1,2,0,0,0,[]), (7,1,2,1,0,0,0,0,[]), (8,3,35,0,10,0,14,0,[1004]), (11,2,0,1,0,0,0,9,[]), (13,1,32,0,0,0,0,0,[]), (14,1,0,0,0,0,0,1,[]), (15,1,9,0,0,0,0,0,[]), (16,1,4,1,3,0,0,0,[]), (17,0,27,0,1,0,0,0,[])],
  [(17,1,1,1,3,0,0,0,[]), (18,3,29,0,7,2,0,0,[]), (21,1,2,1,0,0,0,0,[]), (22,1,1,1,3,0,0,0,[]), (23,3,40,10,219,2,191,0,[1275,1277,49]), (26,0,27,0,2,0,0,0,[])],
  [(26,2,4,0,4,0,0,0,[]), (28,1,1,1,2,0,0,0,[]), (29,1,16,0,0,0,0,0,[]), (30,1,18,0,0,0,0,0,[]), (31,2,1,0,4,0,0,0,[]), (33,1,0,0,0,0,0,1,[]), (34,1,9,0,0,0,0,0,[]), (35,1,16,0,0,0,0,0,[]), (36,3,42,0,164,3,37,0,[1031,1032]), (39,0,27,0,3,0,0,0,[])],
  [(39,3,29,0,4,0,0,0,[]), (42,1,2,1,0,0,0,0,[]), (43,3,35,0,10,5,24,0,[1009]), (46,1,1,1,2,0,0,0,[]), (47,1,32,0,0,0,0,0,[]), (48,1,46,0,0,0,0,0,[])],
  [(49,1,1,1,2,0,0,0,[]), (50,1,1,1,2,0,0,0,[]), (51,3,29,0,5,3,0,0,[]), (54,1,0,0,0,0,0,0,[]), (55,3,26,0,6,0,0,0,[])],
  [(58,2,1,0,4,0,0,0,[]), (60,0,27,0,6,0,0,0,[])],
  [(60,1,9,0,0,0,0,0,[]), (61,1,4,1,2,0,0,0,[]), (62,3,7,0,3,0,0,(-1),[]), (65,3,26,0,1,0,0,0,[])],
  [(68,1,0,0,0,0,0,(-1),[]), (69,1,46,0,0,0,0,0,[])]]
/-- MergeLineModel.log(II)I -/
def cd_226 : List (List xI) := [[(0,1,2,1,0,0,0,0,[]), (1,1,0,0,0,0,0,0,[]), (2,3,36,0,10,3,1,0,[1007]), (5,1,1,1,2,0,0,0,[]), (6,1,16,0,0,0,0,0,[]), (7,1,18,0,0,0,0,0,[]), (8,3,18,1,0,0,86,3,[1092]), (11,3,42,0,164,3,37,0,[1031,1032]), (14,0,27,0,1,0,0,0,[])],
  [(14,3,29,0,2,1,0,0,[]), (17,2,0,1,0,0,0,(-2),[]), (19,1,46,0,0,0,0,0,[])],
  [(20,1,1,1,1,0,0,0,[]), (21,1,16,0,0,0,0,0,[]), (22,1,18,0,0,0,0,0,[]), (23,1,2,1,0,0,0,0,[]), (24,3,35,0,10,0,14,0,[1004]), (27,2,0,1,0,0,0,10,[]), (29,1,32,0,0,0,0,0,[]), (30,1,0,0,0,0,0,1,[]), (31,1,9,0,0,0,0,0,[]), (32,1,16,0,0,0,0,0,[]), (33,3,42,0,164,3,37,0,[1031,1032]), (36,0,27,0,3,0,0,0,[])],
  [(36,3,29,0,4,0,0,0,[]), (39,1,2,1,0,0,0,0,[]), (40,3,35,0,10,0,14,0,[1004]), (43,2,0,3,0,0,201,49296,[1286]), (45,1,0,0,0,0,0,4,[]), (46,1,1,1,1,0,0,0,[]), (47,1,10,0,0,0,0,0,[]), (48,1,8,0,0,0,0,0,[]), (49,1,1,1,2,0,0,0,[]), (50,1,8,0,0,0,0,0,[]), (51,1,32,0,0,0,0,0,[]), (52,3,26,0,5,0,0,0,[])],
  [(55,1,0,0,0,0,0,(-1),[]), (56,0,27,0,5,0,0,0,[])],
  [(56,1,46,0,0,0,0,0,[])]]
/-- MergeLineModel.alter(III)I -/
def cd_227 : List (List xI) := [[(0,1,2,1,0,0,0,0,[]), (1,1,0,0,0,0,0,0,[]), (2,3,36,0,10,3,1,0,[1007]), (5,1,1,1,1,0,0,0,[]), (6,1,16,0,0,0,0,0,[]), (7,1,18,0,0,0,0,0,[]), (8,1,2,1,0,0,0,0,[]), (9,3,35,0,10,0,14,0,[1004]), (12,2,0,1,0,0,0,10,[]), (14,1,32,0,0,0,0,0,[]), (15,1,0,0,0,0,0,1,[]), (16,1,9,0,0,0,0,0,[]), (17,1,16,0,0,0,0,0,[]), (18,3,42,0,164,3,37,0,[1031,1032]), (21,0,27,0,1,0,0,0,[])],
  [(21,3,29,0,3,0,0,0,[]), (24,1,1,1,2,0,0,0,[]), (25,1,16,0,0,0,0,0,[]), (26,1,18,0,0,0,0,0,[]), (27,3,18,1,0,0,86,3,[1092]), (30,3,42,0,164,3,37,0,[1031,1032]), (33,0,27,0,2,0,0,0,[])],
  [(33,3,29,0,3,0,0,0,[]), (36,1,1,1,3,0,0,0,[]), (37,3,29,0,4,1,0,0,[]), (40,0,27,0,3,0,0,0,[])],
  [(40,2,0,1,0,0,0,(-2),[]), (42,1,46,0,0,0,0,0,[])],
  [(43,1,2,1,0,0,0,0,[]), (44,3,35,0,10,0,14,0,[1004]), (47,2,0,3,0,0,201,49296,[1286]), (49,1,0,0,0,0,0,4,[]), (50,1,1,1,1,0,0,0,[]), (51,1,10,0,0,0,0,0,[]), (52,1,8,0,0,0,0,0,[]), (53,1,1,1,2,0,0,0,[]), (54,1,8,0,0,0,0,0,[]), (55,1,24,0,0,0,0,0,[]), (56,1,32,0,0,0,0,0,[]), (57,1,1,1,3,0,0,0,[]), (58,1,15,0,0,0,0,0,[]), (59,1,33,0,0,0,0,0,[]), (60,1,2,1,0,0,0,0,[]), (61,3,35,0,10,0,14,0,[1004]), (64,2,0,3,0,0,201,49296,[1286]), (66,1,0,0,0,0,0,4,[]), (67,1,1,1,1,0,0,0,[]), (68,1,10,0,0,0,0,0,[]), (69,1,8,0,0,0,0,0,[]), (70,1,1,1,2,0,0,0,[]), (71,1,8,0,0,0,0,0,[]), (72,1,32,0,0,0,0,0,[]), (73,1,46,0,0,0,0,0,[])]]
/-- MergeLineModel.check()I -/
def cd_228 : List (List xI) := [[(0,1,2,1,0,0,0,0,[]), (1,1,0,0,0,0,0,0,[]), (2,3,36,0,10,3,1,0,[1007]), (5,1,0,0,0,0,0,0,[]), (6,1,4,1,1,0,0,0,[]), (7,0,27,0,1,0,0,0,[])],
  [(7,1,1,1,1,0,0,0,[]), (8,1,2,1,0,0,0,0,[]), (9,3,35,0,10,0,14,0,[1004]), (12,2,0,1,0,0,0,10,[]), (14,1,32,0,0,0,0,0,[]), (15,3,28,0,5,3,0,0,[]), (18,1,0,0,0,0,0,4,[]), (19,1,1,1,1,0,0,0,[]), (20,1,10,0,0,0,0,0,[]), (21,1,4,1,2,0,0,0,[]), (22,0,27,0,2,0,0,0,[])],
  [(22,1,1,1,2,0,0,0,[]), (23,1,0,0,0,0,0,4,[]), (24,1,1,1,1,0,0,0,[]), (25,1,10,0,0,0,0,0,[]), (26,1,0,0,0,0,0,4,[]), (27,1,8,0,0,0,0,0,[]), (28,3,28,0,4,3,0,0,[]), (31,1,2,1,0,0,0,0,[]), (32,3,35,0,10,0,14,0,[1004]), (35,2,0,3,0,0,201,49296,[1286]), (37,1,1,1,2,0,0,0,[]), (38,1,8,0,0,0,0,0,[]), (39,1,32,0,0,0,0,0,[]), (40,1,2,1,0,0,0,0,[]), (41,3,35,0,10,0,14,0,[1004]), (44,2,0,3,0,0,202,51696,[1287]), (46,1,1,1,2,0,0,0,[]), (47,1,8,0,0,0,0,0,[]), (48,1,32,0,0,0,0,0,[]), (49,3,28,0,3,0,0,0,[]), (52,1,1,1,1,0,0,0,[]), (53,1,46,0,0,0,0,0,[])],
  [(54,3,7,0,2,0,0,1,[]), (57,3,26,0,2,0,0,0,[])],
  [(60,3,7,0,1,0,0,1,[]), (63,3,26,0,1,0,0,0,[])],
  [(66,1,0,0,0,0,0,(-1),[]), (67,1,46,0,0,0,0,0,[])]]
/-- MergeLineModel.keep()I -/
def cd_229 : List (List xI) := [[(0,1,2,1,0,0,0,0,[]), (1,1,0,0,0,0,0,0,[]), (2,3,36,0,10,3,1,0,[1007]), (5,1,2,1,0,0,0,0,[]), (6,1,0,0,0,0,0,1,[]), (7,3,36,1,10,2,223,0,[1006]), (10,1,0,0,0,0,0,0,[]), (11,1,4,1,1,0,0,0,[]), (12,0,27,0,1,0,0,0,[])],
  [(12,1,1,1,1,0,0,0,[]), (13,2,0,3,0,0,13,54096,[1003]), (15,3,28,0,2,3,0,0,[]), (18,1,2,1,0,0,0,0,[]), (19,3,35,0,10,1,18,0,[1005]), (22,1,1,1,1,0,0,0,[]), (23,1,2,1,0,0,0,0,[]), (24,3,35,0,10,0,14,0,[1004]), (27,1,1,1,1,0,0,0,[]), (28,1,32,0,0,0,0,0,[]), (29,1,33,0,0,0,0,0,[]), (30,3,7,0,1,0,0,1,[]), (33,3,26,0,1,0,0,0,[])],
  [(36,1,0,0,0,0,0,1,[]), (37,1,46,0,0,0,0,0,[])]]
/-- MergeLineModel.goBack()I -/
def cd_230 : List (List xI) := [[(0,1,2,1,0,0,0,0,[]), (1,1,0,0,0,0,0,0,[]), (2,3,36,0,10,3,1,0,[1007]), (5,1,2,1,0,0,0,0,[]), (6,3,34,0,10,2,223,0,[1006]), (9,3,29,0,1,1,0,0,[]), (12,2,0,1,0,0,0,(-3),[]), (14,1,46,0,0,0,0,0,[])],
  [(15,1,0,0,0,0,0,0,[]), (16,1,4,1,1,0,0,0,[]), (17,0,27,0,2,0,0,0,[])],
  [(17,1,1,1,1,0,0,0,[]), (18,2,0,3,0,0,13,54096,[1003]), (20,3,28,0,3,3,0,0,[]), (23,1,2,1,0,0,0,0,[]), (24,3,35,0,10,0,14,0,[1004]), (27,1,1,1,1,0,0,0,[]), (28,1,2,1,0,0,0,0,[]), (29,3,35,0,10,1,18,0,[1005]), (32,1,1,1,1,0,0,0,[]), (33,1,32,0,0,0,0,0,[]), (34,1,33,0,0,0,0,0,[]), (35,3,7,0,1,0,0,1,[]), (38,3,26,0,2,0,0,0,[])],
  [(41,1,0,0,0,0,0,1,[]), (42,1,46,0,0,0,0,0,[])]]
/-- MergeLineModel.count(I)I -/
def cd_231 : List (List xI) := [[(0,1,2,1,0,0,0,0,[]), (1,1,0,0,0,0,0,0,[]), (2,3,36,0,10,3,1,0,[1007]), (5,1,0,0,0,0,0,0,[]), (6,1,4,1,2,0,0,0,[]), (7,1,1,1,1,0,0,0,[]), (8,56,30,0,0,17,0,0,[1,5,6,7,8,12,13,14,15,16])],
  [(64,1,0,0,0,0,0,0,[]), (65,1,4,1,3,0,0,0,[]), (66,0,27,0,2,0,0,0,[])],
  [(66,1,1,1,3,0,0,0,[]), (67,2,0,1,0,0,0,8,[]), (69,3,28,0,4,3,0,0,[]), (72,1,1,1,2,0,0,0,[]), (73,1,2,1,0,0,0,0,[]), (74,1,2,1,0,0,0,0,[]), (75,3,35,0,10,0,14,0,[1004]), (78,1,0,0,0,0,0,0,[]), (79,1,32,0,0,0,0,0,[]), (80,1,1,1,3,0,0,0,[]), (81,3,40,10,166,3,27,0,[1035,1037,16]), (84,0,27,0,3,0,0,0,[])],
  [(84,1,8,0,0,0,0,0,[]), (85,1,4,1,2,0,0,0,[]), (86,3,7,0,3,0,0,1,[]), (89,3,26,0,2,0,0,0,[])],
  [(92,1,1,1,2,0,0,0,[]), (93,1,46,0,0,0,0,0,[])],
  [(94,1,2,1,0,0,0,0,[]), (95,3,35,0,10,0,14,0,[1004]), (98,2,0,1,0,0,0,6,[]), (100,1,32,0,0,0,0,0,[]), (101,1,46,0,0,0,0,0,[])],
  [(102,1,2,1,0,0,0,0,[]), (103,3,35,0,10,0,14,0,[1004]), (106,2,0,1,0,0,0,7,[]), (108,1,32,0,0,0,0,0,[]), (109,1,46,0,0,0,0,0,[])],
  [(110,1,2,1,0,0,0,0,[]), (111,3,35,0,10,0,14,0,[1004]), (114,2,0,1,0,0,0,8,[]), (116,1,32,0,0,0,0,0,[]), (117,1,46,0,0,0,0,0,[])],
  [(118,1,0,0,0,0,0,0,[]), (119,1,4,1,3,0,0,0,[]), (120,0,27,0,9,0,0,0,[])],
  [(120,1,1,1,3,0,0,0,[]), (121,1,2,1,0,0,0,0,[]), (122,3,35,0,10,0,14,0,[1004]), (125,2,0,1,0,0,0,9,[]), (127,1,32,0,0,0,0,0,[]), (128,3,28,0,11,3,0,0,[]), (131,1,1,1,2,0,0,0,[]), (132,1,2,1,0,0,0,0,[]), (133,1,1,1,3,0,0,0,[]), (134,3,40,10,219,2,191,0,[1275,1277,49]), (137,0,27,0,10,0,0,0,[])],
  [(137,1,8,0,0,0,0,0,[]), (138,1,4,1,2,0,0,0,[]), (139,3,7,0,3,0,0,1,[]), (142,3,26,0,9,0,0,0,[])],
  [(145,1,1,1,2,0,0,0,[]), (146,1,46,0,0,0,0,0,[])],
  [(147,1,2,1,0,0,0,0,[]), (148,3,35,0,10,0,14,0,[1004]), (151,2,0,1,0,0,0,9,[]), (153,1,32,0,0,0,0,0,[]), (154,1,46,0,0,0,0,0,[])],
  [(155,1,2,1,0,0,0,0,[]), (156,3,35,0,10,0,14,0,[1004]), (159,1,0,0,0,0,0,0,[]), (160,1,32,0,0,0,0,0,[]), (161,1,46,0,0,0,0,0,[])],
  [(162,1,2,1,0,0,0,0,[]), (163,3,35,0,10,0,14,0,[1004]), (166,2,0,1,0,0,0,10,[]), (168,1,32,0,0,0,0,0,[]), (169,1,46,0,0,0,0,0,[])],
  [(170,1,2,1,0,0,0,0,[]), (171,3,35,0,10,0,14,0,[1004]), (174,1,0,0,0,0,0,1,[]), (175,1,32,0,0,0,0,0,[]), (176,1,46,0,0,0,0,0,[])],
  [(177,1,2,1,0,0,0,0,[]), (178,3,35,0,10,0,14,0,[1004]), (181,2,0,1,0,0,0,11,[]), (183,1,32,0,0,0,0,0,[]), (184,1,46,0,0,0,0,0,[])],
  [(185,2,0,1,0,0,0,(-2),[]), (187,1,46,0,0,0,0,0,[])]]
/-- MergeLineLaw.cell([II)I -/
def cd_232 : List (List xI) := [[(0,1,1,1,1,0,0,0,[]), (1,1,2,1,0,0,0,0,[]), (2,1,31,0,0,0,0,0,[]), (3,3,28,0,1,3,0,0,[]), (6,1,2,1,0,0,0,0,[]), (7,1,1,1,1,0,0,0,[]), (8,1,32,0,0,0,0,0,[]), (9,3,26,0,2,0,0,0,[])],
  [(12,1,0,0,0,0,0,0,[]), (13,0,27,0,2,0,0,0,[])],
  [(13,1,46,0,0,0,0,0,[])]]
/-- MergeLineLaw.law([I)Z -/
def cd_233 : List (List xI) := [[(0,3,38,0,9,0,7,0,[67]), (3,1,23,0,0,0,0,0,[]), (4,1,2,1,0,0,0,0,[]), (5,1,0,0,0,0,0,0,[]), (6,3,42,0,232,2,9,0,[994,995]), (9,0,27,0,1,0,0,0,[])],
  [(9,3,48,0,132,2,15,0,[69,70]), (12,0,27,0,2,0,0,0,[])],
  [(12,1,5,1,1,0,0,0,[]), (13,3,38,0,10,0,18,0,[997]), (16,1,23,0,0,0,0,0,[]), (17,1,2,1,0,0,0,0,[]), (18,1,0,0,0,0,0,0,[]), (19,3,42,0,232,2,9,0,[994,995]), (22,0,27,0,3,0,0,0,[])],
  [(22,3,48,0,165,2,20,0,[999,1000]), (25,0,27,0,4,0,0,0,[])],
  [(25,1,5,1,2,0,0,0,[]), (26,1,0,0,0,0,0,1,[]), (27,1,4,1,3,0,0,0,[]), (28,0,27,0,5,0,0,0,[])],
  [(28,1,1,1,3,0,0,0,[]), (29,1,2,1,0,0,0,0,[]), (30,1,31,0,0,0,0,0,[]), (31,2,0,1,0,0,0,7,[]), (33,1,9,0,0,0,0,0,[]), (34,3,28,0,89,4,0,0,[]), (37,1,2,1,0,0,0,0,[]), (38,1,1,1,3,0,0,0,[]), (39,1,32,0,0,0,0,0,[]), (40,2,0,1,0,0,0,31,[]), (42,1,14,0,0,0,0,0,[]), (43,117,30,0,0,88,0,0,[6,9,12,15,18,21,24,27,30,33,36,39,42,45,52,55,58,61,64,67,70,73,76,79,82,85])],
  [(160,1,2,1,1,0,0,0,[]), (161,1,2,1,0,0,0,0,[]), (162,1,1,1,3,0,0,0,[]), (163,1,0,0,0,0,0,1,[]), (164,1,8,0,0,0,0,0,[]), (165,1,32,0,0,0,0,0,[]), (166,1,2,1,0,0,0,0,[]), (167,1,1,1,3,0,0,0,[]), (168,1,0,0,0,0,0,2,[]), (169,1,8,0,0,0,0,0,[]), (170,1,32,0,0,0,0,0,[]), (171,3,40,9,133,3,21,0,[324,325,326]), (174,0,27,0,7,0,0,0,[])],
  [(174,1,2,1,2,0,0,0,[]), (175,1,2,1,0,0,0,0,[]), (176,1,1,1,3,0,0,0,[]), (177,1,0,0,0,0,0,1,[]), (178,1,8,0,0,0,0,0,[]), (179,1,32,0,0,0,0,0,[]), (180,1,2,1,0,0,0,0,[]), (181,1,1,1,3,0,0,0,[]), (182,1,0,0,0,0,0,2,[]), (183,1,8,0,0,0,0,0,[]), (184,1,32,0,0,0,0,0,[]), (185,3,40,10,170,3,25,0,[1023,1024,1025]), (188,0,27,0,8,0,0,0,[])],
  [(188,3,28,0,88,0,0,0,[]), (191,1,0,0,0,0,0,0,[]), (192,1,46,0,1,0,0,0,[])],
  [(193,1,2,1,1,0,0,0,[]), (194,1,2,1,0,0,0,0,[]), (195,1,1,1,3,0,0,0,[]), (196,1,0,0,0,0,0,1,[]), (197,1,8,0,0,0,0,0,[]), (198,1,32,0,0,0,0,0,[]), (199,1,2,1,0,0,0,0,[]), (200,1,1,1,3,0,0,0,[]), (201,1,0,0,0,0,0,2,[]), (202,1,8,0,0,0,0,0,[]), (203,1,32,0,0,0,0,0,[]), (204,1,2,1,0,0,0,0,[]), (205,1,1,1,3,0,0,0,[]), (206,1,0,0,0,0,0,3,[]), (207,1,8,0,0,0,0,0,[]), (208,1,32,0,0,0,0,0,[]), (209,1,2,1,0,0,0,0,[]), (210,1,1,1,3,0,0,0,[]), (211,1,0,0,0,0,0,4,[]), (212,1,8,0,0,0,0,0,[]), (213,1,32,0,0,0,0,0,[]), (214,3,40,9,134,5,26,0,[359,360,361]), (217,0,27,0,10,0,0,0,[])],
  [(217,1,2,1,2,0,0,0,[]), (218,1,2,1,0,0,0,0,[]), (219,1,1,1,3,0,0,0,[]), (220,1,0,0,0,0,0,1,[]), (221,1,8,0,0,0,0,0,[]), (222,1,32,0,0,0,0,0,[]), (223,1,2,1,0,0,0,0,[]), (224,1,1,1,3,0,0,0,[]), (225,1,0,0,0,0,0,2,[]), (226,1,8,0,0,0,0,0,[]), (227,1,32,0,0,0,0,0,[]), (228,1,2,1,0,0,0,0,[]), (229,1,1,1,3,0,0,0,[]), (230,1,0,0,0,0,0,3,[]), (231,1,8,0,0,0,0,0,[]), (232,1,32,0,0,0,0,0,[]), (233,1,2,1,0,0,0,0,[]), (234,1,1,1,3,0,0,0,[]), (235,1,0,0,0,0,0,4,[]), (236,1,8,0,0,0,0,0,[]), (237,1,32,0,0,0,0,0,[]), (238,3,40,10,172,5,30,0,[1046,1047,1048]), (241,0,27,0,11,0,0,0,[])],
  [(241,3,28,0,88,0,0,0,[]), (244,1,0,0,0,0,0,0,[]), (245,1,46,0,1,0,0,0,[])],
  [(246,1,2,1,1,0,0,0,[]), (247,1,2,1,0,0,0,0,[]), (248,1,1,1,3,0,0,0,[]), (249,1,0,0,0,0,0,1,[]), (250,1,8,0,0,0,0,0,[]), (251,1,32,0,0,0,0,0,[]), (252,1,2,1,0,0,0,0,[]), (253,1,1,1,3,0,0,0,[]), (254,1,0,0,0,0,0,2,[]), (255,1,8,0,0,0,0,0,[]), (256,1,32,0,0,0,0,0,[]), (257,3,40,9,135,3,31,0,[378,379,380]), (260,0,27,0,13,0,0,0,[])],
  [(260,1,2,1,2,0,0,0,[]), (261,1,2,1,0,0,0,0,[]), (262,1,1,1,3,0,0,0,[]), (263,1,0,0,0,0,0,1,[]), (264,1,8,0,0,0,0,0,[]), (265,1,32,0,0,0,0,0,[]), (266,1,2,1,0,0,0,0,[]), (267,1,1,1,3,0,0,0,[]), (268,1,0,0,0,0,0,2,[]), (269,1,8,0,0,0,0,0,[]), (270,1,32,0,0,0,0,0,[]), (271,3,40,10,174,3,34,0,[1060,1061,1062]), (274,0,27,0,14,0,0,0,[])],
  [(274,3,28,0,88,0,0,0,[]), (277,1,0,0,0,0,0,0,[]), (278,1,46,0,1,0,0,0,[])],
  [(279,1,2,1,1,0,0,0,[]), (280,1,2,1,0,0,0,0,[]), (281,1,1,1,3,0,0,0,[]), (282,1,0,0,0,0,0,1,[]), (283,1,8,0,0,0,0,0,[]), (284,1,32,0,0,0,0,0,[]), (285,1,2,1,0,0,0,0,[]), (286,1,1,1,3,0,0,0,[]), (287,1,0,0,0,0,0,2,[]), (288,1,8,0,0,0,0,0,[]), (289,1,32,0,0,0,0,0,[]), (290,3,40,9,136,3,35,0,[386,387,388]), (293,0,27,0,16,0,0,0,[])],
  [(293,1,2,1,2,0,0,0,[]), (294,1,2,1,0,0,0,0,[]), (295,1,1,1,3,0,0,0,[]), (296,1,0,0,0,0,0,1,[]), (297,1,8,0,0,0,0,0,[]), (298,1,32,0,0,0,0,0,[]), (299,1,2,1,0,0,0,0,[]), (300,1,1,1,3,0,0,0,[]), (301,1,0,0,0,0,0,2,[]), (302,1,8,0,0,0,0,0,[]), (303,1,32,0,0,0,0,0,[]), (304,3,40,10,175,3,38,0,[1069,1070,1071]), (307,0,27,0,17,0,0,0,[])],
  [(307,3,28,0,88,0,0,0,[]), (310,1,0,0,0,0,0,0,[]), (311,1,46,0,1,0,0,0,[])],
  [(312,1,2,1,1,0,0,0,[]), (313,1,2,1,0,0,0,0,[]), (314,1,1,1,3,0,0,0,[]), (315,1,0,0,0,0,0,1,[]), (316,1,8,0,0,0,0,0,[]), (317,1,32,0,0,0,0,0,[]), (318,1,2,1,0,0,0,0,[]), (319,1,1,1,3,0,0,0,[]), (320,1,0,0,0,0,0,2,[]), (321,1,8,0,0,0,0,0,[]), (322,1,32,0,0,0,0,0,[]), (323,3,40,9,137,3,39,0,[394,395,396]), (326,0,27,0,19,0,0,0,[])],
  [(326,1,2,1,2,0,0,0,[]), (327,1,2,1,0,0,0,0,[]), (328,1,1,1,3,0,0,0,[]), (329,1,0,0,0,0,0,1,[]), (330,1,8,0,0,0,0,0,[]), (331,1,32,0,0,0,0,0,[]), (332,1,2,1,0,0,0,0,[]), (333,1,1,1,3,0,0,0,[]), (334,1,0,0,0,0,0,2,[]), (335,1,8,0,0,0,0,0,[]), (336,1,32,0,0,0,0,0,[]), (337,3,40,10,179,3,42,0,[1073,1074,1075]), (340,0,27,0,20,0,0,0,[])],
  [(340,3,28,0,88,0,0,0,[]), (343,1,0,0,0,0,0,0,[]), (344,1,46,0,1,0,0,0,[])],
  [(345,1,2,1,1,0,0,0,[]), (346,1,2,1,0,0,0,0,[]), (347,1,1,1,3,0,0,0,[]), (348,1,0,0,0,0,0,1,[]), (349,1,8,0,0,0,0,0,[]), (350,1,32,0,0,0,0,0,[]), (351,3,40,9,138,2,43,0,[449,450,451]), (354,0,27,0,22,0,0,0,[])],
  [(354,1,2,1,2,0,0,0,[]), (355,1,2,1,0,0,0,0,[]), (356,1,1,1,3,0,0,0,[]), (357,1,0,0,0,0,0,1,[]), (358,1,8,0,0,0,0,0,[]), (359,1,32,0,0,0,0,0,[]), (360,3,40,10,183,2,47,0,[1088,1089,1090]), (363,0,27,0,23,0,0,0,[])],
  [(363,3,28,0,88,0,0,0,[]), (366,1,0,0,0,0,0,0,[]), (367,1,46,0,1,0,0,0,[])],
  [(368,1,2,1,1,0,0,0,[]), (369,1,2,1,0,0,0,0,[]), (370,1,1,1,3,0,0,0,[]), (371,1,0,0,0,0,0,1,[]), (372,1,8,0,0,0,0,0,[]), (373,1,32,0,0,0,0,0,[]), (374,1,2,1,0,0,0,0,[]), (375,1,1,1,3,0,0,0,[]), (376,1,0,0,0,0,0,2,[]), (377,1,8,0,0,0,0,0,[]), (378,1,32,0,0,0,0,0,[]), (379,1,2,1,0,0,0,0,[]), (380,1,1,1,3,0,0,0,[]), (381,1,0,0,0,0,0,3,[]), (382,1,8,0,0,0,0,0,[]), (383,1,32,0,0,0,0,0,[]), (384,1,2,1,0,0,0,0,[]), (385,1,1,1,3,0,0,0,[]), (386,1,0,0,0,0,0,4,[]), (387,1,8,0,0,0,0,0,[]), (388,1,32,0,0,0,0,0,[]), (389,1,2,1,0,0,0,0,[]), (390,1,1,1,3,0,0,0,[]), (391,1,0,0,0,0,0,5,[]), (392,1,8,0,0,0,0,0,[]), (393,1,32,0,0,0,0,0,[]), (394,1,2,1,0,0,0,0,[]), (395,1,1,1,3,0,0,0,[]), (396,2,0,1,0,0,0,6,[]), (398,1,8,0,0,0,0,0,[]), (399,1,32,0,0,0,0,0,[]), (400,3,40,9,139,7,48,0,[462,463,464]), (403,0,27,0,25,0,0,0,[])],
  [(403,1,2,1,2,0,0,0,[]), (404,1,2,1,0,0,0,0,[]), (405,1,1,1,3,0,0,0,[]), (406,1,0,0,0,0,0,1,[]), (407,1,8,0,0,0,0,0,[]), (408,1,32,0,0,0,0,0,[]), (409,1,2,1,0,0,0,0,[]), (410,1,1,1,3,0,0,0,[]), (411,1,0,0,0,0,0,2,[]), (412,1,8,0,0,0,0,0,[]), (413,1,32,0,0,0,0,0,[]), (414,1,2,1,0,0,0,0,[]), (415,1,1,1,3,0,0,0,[]), (416,1,0,0,0,0,0,3,[]), (417,1,8,0,0,0,0,0,[]), (418,1,32,0,0,0,0,0,[]), (419,1,2,1,0,0,0,0,[]), (420,1,1,1,3,0,0,0,[]), (421,1,0,0,0,0,0,4,[]), (422,1,8,0,0,0,0,0,[]), (423,1,32,0,0,0,0,0,[]), (424,1,2,1,0,0,0,0,[]), (425,1,1,1,3,0,0,0,[]), (426,1,0,0,0,0,0,5,[]), (427,1,8,0,0,0,0,0,[]), (428,1,32,0,0,0,0,0,[]), (429,1,2,1,0,0,0,0,[]), (430,1,1,1,3,0,0,0,[]), (431,2,0,1,0,0,0,6,[]), (433,1,8,0,0,0,0,0,[]), (434,1,32,0,0,0,0,0,[]), (435,3,40,10,186,7,52,0,[1105,1106,1107]), (438,0,27,0,26,0,0,0,[])],
  [(438,3,28,0,88,0,0,0,[]), (441,1,0,0,0,0,0,0,[]), (442,1,46,0,1,0,0,0,[])],
  [(443,1,2,1,1,0,0,0,[]), (444,1,2,1,0,0,0,0,[]), (445,1,1,1,3,0,0,0,[]), (446,1,0,0,0,0,0,1,[]), (447,1,8,0,0,0,0,0,[]), (448,1,32,0,0,0,0,0,[]), (449,3,40,9,140,2,53,0,[517,518,519]), (452,0,27,0,28,0,0,0,[])],
  [(452,1,2,1,2,0,0,0,[]), (453,1,2,1,0,0,0,0,[]), (454,1,1,1,3,0,0,0,[]), (455,1,0,0,0,0,0,1,[]), (456,1,8,0,0,0,0,0,[]), (457,1,32,0,0,0,0,0,[]), (458,3,40,10,192,2,56,0,[1131,1132,1133]), (461,0,27,0,29,0,0,0,[])],
  [(461,3,28,0,88,0,0,0,[]), (464,1,0,0,0,0,0,0,[]), (465,1,46,0,1,0,0,0,[])],
  [(466,1,2,1,1,0,0,0,[]), (467,1,2,1,0,0,0,0,[]), (468,1,1,1,3,0,0,0,[]), (469,1,0,0,0,0,0,1,[]), (470,1,8,0,0,0,0,0,[]), (471,1,32,0,0,0,0,0,[]), (472,1,2,1,0,0,0,0,[]), (473,1,1,1,3,0,0,0,[]), (474,1,0,0,0,0,0,2,[]), (475,1,8,0,0,0,0,0,[]), (476,1,32,0,0,0,0,0,[]), (477,3,40,9,141,3,57,0,[542,543,544]), (480,0,27,0,31,0,0,0,[])],
  [(480,1,2,1,2,0,0,0,[]), (481,1,2,1,0,0,0,0,[]), (482,1,1,1,3,0,0,0,[]), (483,1,0,0,0,0,0,1,[]), (484,1,8,0,0,0,0,0,[]), (485,1,32,0,0,0,0,0,[]), (486,1,2,1,0,0,0,0,[]), (487,1,1,1,3,0,0,0,[]), (488,1,0,0,0,0,0,2,[]), (489,1,8,0,0,0,0,0,[]), (490,1,32,0,0,0,0,0,[]), (491,3,40,10,193,3,60,0,[1139,1140,1141]), (494,0,27,0,32,0,0,0,[])],
  [(494,3,28,0,88,0,0,0,[]), (497,1,0,0,0,0,0,0,[]), (498,1,46,0,1,0,0,0,[])],
  [(499,1,2,1,1,0,0,0,[]), (500,1,2,1,0,0,0,0,[]), (501,1,1,1,3,0,0,0,[]), (502,1,0,0,0,0,0,1,[]), (503,1,8,0,0,0,0,0,[]), (504,1,32,0,0,0,0,0,[]), (505,3,40,9,142,2,61,0,[554,555,556]), (508,0,27,0,34,0,0,0,[])],
  [(508,1,2,1,2,0,0,0,[]), (509,1,2,1,0,0,0,0,[]), (510,1,1,1,3,0,0,0,[]), (511,1,0,0,0,0,0,1,[]), (512,1,8,0,0,0,0,0,[]), (513,1,32,0,0,0,0,0,[]), (514,3,40,10,194,2,64,0,[1143,1144,1145]), (517,0,27,0,35,0,0,0,[])],
  [(517,3,28,0,88,0,0,0,[]), (520,1,0,0,0,0,0,0,[]), (521,1,46,0,1,0,0,0,[])],
  [(522,1,2,1,1,0,0,0,[]), (523,1,2,1,0,0,0,0,[]), (524,1,1,1,3,0,0,0,[]), (525,1,0,0,0,0,0,1,[]), (526,1,8,0,0,0,0,0,[]), (527,1,32,0,0,0,0,0,[]), (528,1,2,1,0,0,0,0,[]), (529,1,1,1,3,0,0,0,[]), (530,1,0,0,0,0,0,2,[]), (531,1,8,0,0,0,0,0,[]), (532,1,32,0,0,0,0,0,[]), (533,3,40,9,143,3,65,0,[558,559,560]), (536,0,27,0,37,0,0,0,[])],
  [(536,1,2,1,2,0,0,0,[]), (537,1,2,1,0,0,0,0,[]), (538,1,1,1,3,0,0,0,[]), (539,1,0,0,0,0,0,1,[]), (540,1,8,0,0,0,0,0,[]), (541,1,32,0,0,0,0,0,[]), (542,1,2,1,0,0,0,0,[]), (543,1,1,1,3,0,0,0,[]), (544,1,0,0,0,0,0,2,[]), (545,1,8,0,0,0,0,0,[]), (546,1,32,0,0,0,0,0,[]), (547,3,40,10,197,3,68,0,[1151,1152,1153]), (550,0,27,0,38,0,0,0,[])],
  [(550,3,28,0,88,0,0,0,[]), (553,1,0,0,0,0,0,0,[]), (554,1,46,0,1,0,0,0,[])],
  [(555,1,2,1,1,0,0,0,[]), (556,1,2,1,0,0,0,0,[]), (557,1,1,1,3,0,0,0,[]), (558,1,0,0,0,0,0,1,[]), (559,1,8,0,0,0,0,0,[]), (560,1,32,0,0,0,0,0,[]), (561,3,40,9,144,2,69,0,[582,583,584]), (564,0,27,0,40,0,0,0,[])],
  [(564,1,2,1,2,0,0,0,[]), (565,1,2,1,0,0,0,0,[]), (566,1,1,1,3,0,0,0,[]), (567,1,0,0,0,0,0,1,[]), (568,1,8,0,0,0,0,0,[]), (569,1,32,0,0,0,0,0,[]), (570,3,40,10,199,2,72,0,[1163,1164,1165]), (573,0,27,0,41,0,0,0,[])],
  [(573,3,28,0,88,0,0,0,[]), (576,1,0,0,0,0,0,0,[]), (577,1,46,0,1,0,0,0,[])],
  [(578,1,2,1,1,0,0,0,[]), (579,1,2,1,0,0,0,0,[]), (580,1,1,1,3,0,0,0,[]), (581,1,0,0,0,0,0,1,[]), (582,1,8,0,0,0,0,0,[]), (583,1,32,0,0,0,0,0,[]), (584,3,40,9,145,2,73,0,[595,596,597]), (587,0,27,0,43,0,0,0,[])],
  [(587,1,2,1,2,0,0,0,[]), (588,1,2,1,0,0,0,0,[]), (589,1,1,1,3,0,0,0,[]), (590,1,0,0,0,0,0,1,[]), (591,1,8,0,0,0,0,0,[]), (592,1,32,0,0,0,0,0,[]), (593,3,40,10,201,2,76,0,[1168,1169,1170]), (596,0,27,0,44,0,0,0,[])],
  [(596,3,28,0,88,0,0,0,[]), (599,1,0,0,0,0,0,0,[]), (600,1,46,0,1,0,0,0,[])],
  [(601,1,2,1,1,0,0,0,[]), (602,1,2,1,0,0,0,0,[]), (603,1,1,1,3,0,0,0,[]), (604,1,0,0,0,0,0,1,[]), (605,1,8,0,0,0,0,0,[]), (606,1,32,0,0,0,0,0,[]), (607,1,2,1,0,0,0,0,[]), (608,1,1,1,3,0,0,0,[]), (609,1,0,0,0,0,0,2,[]), (610,1,8,0,0,0,0,0,[]), (611,1,32,0,0,0,0,0,[]), (612,3,29,0,46,0,0,0,[]), (615,1,0,0,0,0,0,1,[]), (616,3,26,0,47,0,0,0,[])],
  [(619,1,0,0,0,0,0,0,[]), (620,0,27,0,47,0,0,0,[])],
  [(620,3,40,9,146,3,77,0,[609,610,611]), (623,0,27,0,48,0,0,0,[])],
  [(623,1,2,1,2,0,0,0,[]), (624,1,2,1,0,0,0,0,[]), (625,1,1,1,3,0,0,0,[]), (626,1,0,0,0,0,0,1,[]), (627,1,8,0,0,0,0,0,[]), (628,1,32,0,0,0,0,0,[]), (629,1,2,1,0,0,0,0,[]), (630,1,1,1,3,0,0,0,[]), (631,1,0,0,0,0,0,2,[]), (632,1,8,0,0,0,0,0,[]), (633,1,32,0,0,0,0,0,[]), (634,3,29,0,49,0,0,0,[]), (637,1,0,0,0,0,0,1,[]), (638,3,26,0,50,0,0,0,[])],
  [(641,1,0,0,0,0,0,0,[]), (642,0,27,0,50,0,0,0,[])],
  [(642,3,40,10,202,3,81,0,[1180,1181,1182]), (645,0,27,0,51,0,0,0,[])],
  [(645,3,28,0,88,0,0,0,[]), (648,1,0,0,0,0,0,0,[]), (649,1,46,0,1,0,0,0,[])],
  [(650,1,2,1,1,0,0,0,[]), (651,1,2,1,0,0,0,0,[]), (652,1,1,1,3,0,0,0,[]), (653,1,0,0,0,0,0,1,[]), (654,1,8,0,0,0,0,0,[]), (655,1,32,0,0,0,0,0,[]), (656,3,40,9,147,2,82,0,[621,622,623]), (659,0,27,0,53,0,0,0,[])],
  [(659,1,2,1,2,0,0,0,[]), (660,1,2,1,0,0,0,0,[]), (661,1,1,1,3,0,0,0,[]), (662,1,0,0,0,0,0,1,[]), (663,1,8,0,0,0,0,0,[]), (664,1,32,0,0,0,0,0,[]), (665,3,40,10,203,2,85,0,[1184,1185,1186]), (668,0,27,0,54,0,0,0,[])],
  [(668,3,28,0,88,0,0,0,[]), (671,1,0,0,0,0,0,0,[]), (672,1,46,0,1,0,0,0,[])],
  [(673,1,2,1,1,0,0,0,[]), (674,1,2,1,0,0,0,0,[]), (675,1,1,1,3,0,0,0,[]), (676,1,0,0,0,0,0,1,[]), (677,1,8,0,0,0,0,0,[]), (678,1,32,0,0,0,0,0,[]), (679,3,40,9,148,2,86,0,[629,630,631]), (682,0,27,0,56,0,0,0,[])],
  [(682,1,2,1,2,0,0,0,[]), (683,1,2,1,0,0,0,0,[]), (684,1,1,1,3,0,0,0,[]), (685,1,0,0,0,0,0,1,[]), (686,1,8,0,0,0,0,0,[]), (687,1,32,0,0,0,0,0,[]), (688,3,40,10,221,2,89,0,[1189,1190,1191]), (691,0,27,0,57,0,0,0,[])],
  [(691,3,28,0,88,0,0,0,[]), (694,1,0,0,0,0,0,0,[]), (695,1,46,0,1,0,0,0,[])],
  [(696,1,2,1,1,0,0,0,[]), (697,1,2,1,0,0,0,0,[]), (698,1,1,1,3,0,0,0,[]), (699,1,0,0,0,0,0,1,[]), (700,1,8,0,0,0,0,0,[]), (701,1,32,0,0,0,0,0,[]), (702,1,2,1,0,0,0,0,[]), (703,1,1,1,3,0,0,0,[]), (704,1,0,0,0,0,0,2,[]), (705,1,8,0,0,0,0,0,[]), (706,1,32,0,0,0,0,0,[]), (707,3,40,9,149,3,90,0,[856,857,858]), (710,0,27,0,59,0,0,0,[])],
  [(710,1,2,1,2,0,0,0,[]), (711,1,2,1,0,0,0,0,[]), (712,1,1,1,3,0,0,0,[]), (713,1,0,0,0,0,0,1,[]), (714,1,8,0,0,0,0,0,[]), (715,1,32,0,0,0,0,0,[]), (716,1,2,1,0,0,0,0,[]), (717,1,1,1,3,0,0,0,[]), (718,1,0,0,0,0,0,2,[]), (719,1,8,0,0,0,0,0,[]), (720,1,32,0,0,0,0,0,[]), (721,3,40,10,223,3,93,0,[1292,1293,1294]), (724,0,27,0,60,0,0,0,[])],
  [(724,3,28,0,88,0,0,0,[]), (727,1,0,0,0,0,0,0,[]), (728,1,46,0,1,0,0,0,[])],
  [(729,1,2,1,1,0,0,0,[]), (730,1,2,1,0,0,0,0,[]), (731,1,1,1,3,0,0,0,[]), (732,1,0,0,0,0,0,1,[]), (733,1,8,0,0,0,0,0,[]), (734,1,32,0,0,0,0,0,[]), (735,3,40,9,150,2,94,0,[878,879,880]), (738,0,27,0,62,0,0,0,[])],
  [(738,1,2,1,2,0,0,0,[]), (739,1,2,1,0,0,0,0,[]), (740,1,1,1,3,0,0,0,[]), (741,1,0,0,0,0,0,1,[]), (742,1,8,0,0,0,0,0,[]), (743,1,32,0,0,0,0,0,[]), (744,3,40,10,224,2,97,0,[1301,1302,1303]), (747,0,27,0,63,0,0,0,[])],
  [(747,3,28,0,88,0,0,0,[]), (750,1,0,0,0,0,0,0,[]), (751,1,46,0,1,0,0,0,[])],
  [(752,1,2,1,1,0,0,0,[]), (753,1,2,1,0,0,0,0,[]), (754,1,1,1,3,0,0,0,[]), (755,1,0,0,0,0,0,1,[]), (756,1,8,0,0,0,0,0,[]), (757,1,32,0,0,0,0,0,[]), (758,3,40,9,151,2,98,0,[883,884,885]), (761,0,27,0,65,0,0,0,[])],
  [(761,1,2,1,2,0,0,0,[]), (762,1,2,1,0,0,0,0,[]), (763,1,1,1,3,0,0,0,[]), (764,1,0,0,0,0,0,1,[]), (765,1,8,0,0,0,0,0,[]), (766,1,32,0,0,0,0,0,[]), (767,3,40,10,225,2,101,0,[1305,1306,1307]), (770,0,27,0,66,0,0,0,[])],
  [(770,3,28,0,88,0,0,0,[]), (773,1,0,0,0,0,0,0,[]), (774,1,46,0,1,0,0,0,[])],
  [(775,1,2,1,1,0,0,0,[]), (776,1,2,1,0,0,0,0,[]), (777,1,1,1,3,0,0,0,[]), (778,1,0,0,0,0,0,1,[]), (779,1,8,0,0,0,0,0,[]), (780,1,32,0,0,0,0,0,[]), (781,1,2,1,0,0,0,0,[]), (782,1,1,1,3,0,0,0,[]), (783,1,0,0,0,0,0,2,[]), (784,1,8,0,0,0,0,0,[]), (785,1,32,0,0,0,0,0,[]), (786,1,2,1,0,0,0,0,[]), (787,1,1,1,3,0,0,0,[]), (788,1,0,0,0,0,0,3,[]), (789,1,8,0,0,0,0,0,[]), (790,1,32,0,0,0,0,0,[]), (791,1,2,1,0,0,0,0,[]), (792,1,1,1,3,0,0,0,[]), (793,1,0,0,0,0,0,4,[]), (794,1,8,0,0,0,0,0,[]), (795,1,32,0,0,0,0,0,[]), (796,3,40,9,152,5,102,0,[888,889,890]), (799,0,27,0,68,0,0,0,[])],
  [(799,1,2,1,2,0,0,0,[]), (800,1,2,1,0,0,0,0,[]), (801,1,1,1,3,0,0,0,[]), (802,1,0,0,0,0,0,1,[]), (803,1,8,0,0,0,0,0,[]), (804,1,32,0,0,0,0,0,[]), (805,1,2,1,0,0,0,0,[]), (806,1,1,1,3,0,0,0,[]), (807,1,0,0,0,0,0,2,[]), (808,1,8,0,0,0,0,0,[]), (809,1,32,0,0,0,0,0,[]), (810,1,2,1,0,0,0,0,[]), (811,1,1,1,3,0,0,0,[]), (812,1,0,0,0,0,0,3,[]), (813,1,8,0,0,0,0,0,[]), (814,1,32,0,0,0,0,0,[]), (815,1,2,1,0,0,0,0,[]), (816,1,1,1,3,0,0,0,[]), (817,1,0,0,0,0,0,4,[]), (818,1,8,0,0,0,0,0,[]), (819,1,32,0,0,0,0,0,[]), (820,3,40,10,171,5,105,0,[1042,1043,1044]), (823,0,27,0,69,0,0,0,[])],
  [(823,3,28,0,88,0,0,0,[]), (826,1,0,0,0,0,0,0,[]), (827,1,46,0,1,0,0,0,[])],
  [(828,1,2,1,1,0,0,0,[]), (829,1,2,1,0,0,0,0,[]), (830,1,1,1,3,0,0,0,[]), (831,1,0,0,0,0,0,1,[]), (832,1,8,0,0,0,0,0,[]), (833,1,32,0,0,0,0,0,[]), (834,1,2,1,0,0,0,0,[]), (835,1,1,1,3,0,0,0,[]), (836,1,0,0,0,0,0,2,[]), (837,1,8,0,0,0,0,0,[]), (838,1,32,0,0,0,0,0,[]), (839,3,40,9,153,3,106,0,[894,895,896]), (842,0,27,0,71,0,0,0,[])],
  [(842,1,2,1,2,0,0,0,[]), (843,1,2,1,0,0,0,0,[]), (844,1,1,1,3,0,0,0,[]), (845,1,0,0,0,0,0,1,[]), (846,1,8,0,0,0,0,0,[]), (847,1,32,0,0,0,0,0,[]), (848,1,2,1,0,0,0,0,[]), (849,1,1,1,3,0,0,0,[]), (850,1,0,0,0,0,0,2,[]), (851,1,8,0,0,0,0,0,[]), (852,1,32,0,0,0,0,0,[]), (853,3,40,10,226,3,109,0,[1309,1310,1311]), (856,0,27,0,72,0,0,0,[])],
  [(856,3,28,0,88,0,0,0,[]), (859,1,0,0,0,0,0,0,[]), (860,1,46,0,1,0,0,0,[])],
  [(861,1,2,1,1,0,0,0,[]), (862,1,2,1,0,0,0,0,[]), (863,1,1,1,3,0,0,0,[]), (864,1,0,0,0,0,0,1,[]), (865,1,8,0,0,0,0,0,[]), (866,1,32,0,0,0,0,0,[]), (867,1,2,1,0,0,0,0,[]), (868,1,1,1,3,0,0,0,[]), (869,1,0,0,0,0,0,2,[]), (870,1,8,0,0,0,0,0,[]), (871,1,32,0,0,0,0,0,[]), (872,1,2,1,0,0,0,0,[]), (873,1,1,1,3,0,0,0,[]), (874,1,0,0,0,0,0,3,[]), (875,1,8,0,0,0,0,0,[]), (876,1,32,0,0,0,0,0,[]), (877,3,40,9,154,4,110,0,[903,904,905]), (880,0,27,0,74,0,0,0,[])],
  [(880,1,2,1,2,0,0,0,[]), (881,1,2,1,0,0,0,0,[]), (882,1,1,1,3,0,0,0,[]), (883,1,0,0,0,0,0,1,[]), (884,1,8,0,0,0,0,0,[]), (885,1,32,0,0,0,0,0,[]), (886,1,2,1,0,0,0,0,[]), (887,1,1,1,3,0,0,0,[]), (888,1,0,0,0,0,0,2,[]), (889,1,8,0,0,0,0,0,[]), (890,1,32,0,0,0,0,0,[]), (891,1,2,1,0,0,0,0,[]), (892,1,1,1,3,0,0,0,[]), (893,1,0,0,0,0,0,3,[]), (894,1,8,0,0,0,0,0,[]), (895,1,32,0,0,0,0,0,[]), (896,3,40,10,227,4,114,0,[1313,1314,1315]), (899,0,27,0,75,0,0,0,[])],
  [(899,3,28,0,88,0,0,0,[]), (902,1,0,0,0,0,0,0,[]), (903,1,46,0,1,0,0,0,[])],
  [(904,1,2,1,1,0,0,0,[]), (905,3,40,9,155,1,115,0,[912,913,914]), (908,0,27,0,77,0,0,0,[])],
  [(908,1,2,1,2,0,0,0,[]), (909,3,40,10,228,1,119,0,[1317,1318,1319]), (912,0,27,0,78,0,0,0,[])],
  [(912,3,28,0,88,0,0,0,[]), (915,1,0,0,0,0,0,0,[]), (916,1,46,0,1,0,0,0,[])],
  [(917,1,2,1,1,0,0,0,[]), (918,3,40,9,156,1,120,0,[920,921,922]), (921,0,27,0,80,0,0,0,[])],
  [(921,1,2,1,2,0,0,0,[]), (922,3,40,10,229,1,123,0,[1321,1322,1323]), (925,0,27,0,81,0,0,0,[])],
  [(925,3,28,0,88,0,0,0,[]), (928,1,0,0,0,0,0,0,[]), (929,1,46,0,1,0,0,0,[])],
  [(930,1,2,1,1,0,0,0,[]), (931,3,40,9,157,1,124,0,[968,969,970]), (934,0,27,0,83,0,0,0,[])],
  [(934,1,2,1,2,0,0,0,[]), (935,3,40,10,230,1,127,0,[1325,1326,1327]), (938,0,27,0,84,0,0,0,[])],
  [(938,3,28,0,88,0,0,0,[]), (941,1,0,0,0,0,0,0,[]), (942,1,46,0,1,0,0,0,[])],
  [(943,1,2,1,1,0,0,0,[]), (944,1,2,1,0,0,0,0,[]), (945,1,1,1,3,0,0,0,[]), (946,1,0,0,0,0,0,1,[]), (947,1,8,0,0,0,0,0,[]), (948,1,32,0,0,0,0,0,[]), (949,3,40,9,158,2,128,0,[972,973,974]), (952,0,27,0,86,0,0,0,[])],
  [(952,1,2,1,2,0,0,0,[]), (953,1,2,1,0,0,0,0,[]), (954,1,1,1,3,0,0,0,[]), (955,1,0,0,0,0,0,1,[]), (956,1,8,0,0,0,0,0,[]), (957,1,32,0,0,0,0,0,[]), (958,3,40,10,231,2,131,0,[1329,1330,1331]), (961,0,27,0,87,0,0,0,[])],
  [(961,3,28,0,88,0,0,0,[]), (964,1,0,0,0,0,0,0,[]), (965,1,46,0,1,0,0,0,[])],
  [(966,3,7,0,3,0,0,7,[]), (969,3,26,0,5,0,0,0,[])],
  [(972,1,0,0,0,0,0,1,[]), (973,1,46,0,1,0,0,0,[])]]
def xprog : List (List (List xI)) := [cd_0, cd_1, cd_2, cd_3, cd_4, cd_5, cd_6, cd_7, cd_8, cd_9, cd_10, cd_11, cd_12, cd_13, cd_14, cd_15, cd_16, cd_17, cd_18, cd_19, cd_20, cd_21, cd_22, cd_23, cd_24, cd_25, cd_26, cd_27, cd_28, cd_29, cd_30, cd_31, cd_32, cd_33, cd_34, cd_35, cd_36, cd_37, cd_38, cd_39, cd_40, cd_41, cd_42, cd_43, cd_44, cd_45, cd_46, cd_47, cd_48, cd_49, cd_50, cd_51, cd_52, cd_53, cd_54, cd_55, cd_56, cd_57, cd_58, cd_59, cd_60, cd_61, cd_62, cd_63, cd_64, cd_65, cd_66, cd_67, cd_68, cd_69, cd_70, cd_71, cd_72, cd_73, cd_74, cd_75, cd_76, cd_77, cd_78, cd_79, cd_80, cd_81, cd_82, cd_83, cd_84, cd_85, cd_86, cd_87, cd_88, cd_89, cd_90, cd_91, cd_92, cd_93, cd_94, cd_95, cd_96, cd_97, cd_98, cd_99, cd_100, cd_101, cd_102, cd_103, cd_104, cd_105, cd_106, cd_107, cd_108, cd_109, cd_110, cd_111, cd_112, cd_113, cd_114, cd_115, cd_116, cd_117, cd_118, cd_119, cd_120, cd_121, cd_122, cd_123, cd_124, cd_125, cd_126, cd_127, cd_128, cd_129, cd_130, cd_131, cd_132, cd_133, cd_134, cd_135, cd_136, cd_137, cd_138, cd_139, cd_140, cd_141, cd_142, cd_143, cd_144, cd_145, cd_146, cd_147, cd_148, cd_149, cd_150, cd_151, cd_152, cd_153, cd_154, cd_155, cd_156, cd_157, cd_158, cd_159, cd_160, cd_161, cd_162, cd_163, cd_164, cd_165, cd_166, cd_167, cd_168, cd_169, cd_170, cd_171, cd_172, cd_173, cd_174, cd_175, cd_176, cd_177, cd_178, cd_179, cd_180, cd_181, cd_182, cd_183, cd_184, cd_185, cd_186, cd_187, cd_188, cd_189, cd_190, cd_191, cd_192, cd_193, cd_194, cd_195, cd_196, cd_197, cd_198, cd_199, cd_200, cd_201, cd_202, cd_203, cd_204, cd_205, cd_206, cd_207, cd_208, cd_209, cd_210, cd_211, cd_212, cd_213, cd_214, cd_215, cd_216, cd_217, cd_218, cd_219, cd_220, cd_221, cd_222, cd_223, cd_224, cd_225, cd_226, cd_227, cd_228, cd_229, cd_230, cd_231, cd_232, cd_233]
/-- of a method: name, bytes, locals, what it gives, frames and words of locals that it needs below it -/
abbrev xT : Type := MethodName × ByteArray × Nat × Option FieldType × Nat × Nat
def xmt_0 : List xT := [(yX0_init, cX0_init, 1, (Option.none), 1, 20),
  (yX0_latest, cX0_latest, 1, (Option.some Jvm.ClassFile.FieldType.int), 0, 0),
  (yX0_marksMade, cX0_marksMade, 1, (Option.some Jvm.ClassFile.FieldType.int), 0, 0),
  (yX0_newLine, cX0_newLine, 2, (Option.some Jvm.ClassFile.FieldType.int), 0, 0),
  (yX0_append, cX0_append, 4, (Option.none), 2, 56),
  (yX0_lengthOf, cX0_lengthOf, 3, (Option.some Jvm.ClassFile.FieldType.int), 0, 0),
  (yX0_linesIn, cX0_linesIn, 4, (Option.some Jvm.ClassFile.FieldType.int), 1, 22),
  (yX0_markAt, cX0_markAt, 5, (Option.some Jvm.ClassFile.FieldType.int), 0, 0),
  (yX0_valueOf, cX0_valueOf, 2, (Option.some Jvm.ClassFile.FieldType.int), 0, 0),
  (yX0_nameGivenBy, cX0_nameGivenBy, 3, (Option.some Jvm.ClassFile.FieldType.int), 0, 0),
  (yX0_nameAskedBy, cX0_nameAskedBy, 3, (Option.some Jvm.ClassFile.FieldType.int), 1, 21),
  (yX0_linesGiving, cX0_linesGiving, 7, (Option.some Jvm.ClassFile.FieldType.int), 1, 24),
  (yX0_setMark, cX0_setMark, 5, (Option.none), 0, 0),
  (yX0_makeRoom, cX0_makeRoom, 9, (Option.none), 1, 28),
  (yX0_copySlot, cX0_copySlot, 3, (Option.none), 1, 28),
  (yX0_takeTrial, cX0_takeTrial, 1, (Option.none), 2, 50),
  (yX0_takeOver, cX0_takeOver, 2, (Option.none), 1, 28),
  (yX1_init, cX1_init, 2, (Option.none), 1, 20),
  (yX1_get, cX1_get, 2, (Option.some Jvm.ClassFile.FieldType.int), 0, 0),
  (yX1_set, cX1_set, 3, (Option.none), 0, 0),
  (yX1_move, cX1_move, 4, (Option.none), 1, 28),
  (yX1_takeOver, cX1_takeOver, 2, (Option.none), 1, 28),
  (yX2_init, cX2_init, 1, (Option.none), 3, 61),
  (yX2_made, cX2_made, 1, (Option.some Jvm.ClassFile.FieldType.int), 0, 0),
  (yX2_begin, cX2_begin, 3, (Option.some Jvm.ClassFile.FieldType.int), 1, 22),
  (yX2_finish, cX2_finish, 1, (Option.some Jvm.ClassFile.FieldType.int), 0, 0),
  (yX2_kindOf, cX2_kindOf, 2, (Option.some Jvm.ClassFile.FieldType.int), 1, 21),
  (yX2_standOf, cX2_standOf, 2, (Option.some Jvm.ClassFile.FieldType.int), 1, 21),
  (yX2_setStand, cX2_setStand, 3, (Option.none), 1, 22),
  (yX2_takenWith, cX2_takenWith, 2, (Option.some Jvm.ClassFile.FieldType.int), 1, 21),
  (yX2_setTakenWith, cX2_setTakenWith, 3, (Option.none), 1, 22),
  (yX2_failedBy, cX2_failedBy, 2, (Option.some Jvm.ClassFile.FieldType.int), 1, 21),
  (yX2_setFailedBy, cX2_setFailedBy, 3, (Option.none), 1, 22),
  (yX2_editsOf, cX2_editsOf, 2, (Option.some Jvm.ClassFile.FieldType.int), 1, 21),
  (yX2_partnerOf, cX2_partnerOf, 2, (Option.some Jvm.ClassFile.FieldType.int), 1, 21),
  (yX2_canPair, cX2_canPair, 2, (Option.some Jvm.ClassFile.FieldType.boolean), 1, 21),
  (yX2_join, cX2_join, 3, (Option.none), 1, 22),
  (yX2_swapHand, cX2_swapHand, 4, (Option.some Jvm.ClassFile.FieldType.int), 1, 22),
  (yX2_isOpen, cX2_isOpen, 3, (Option.some Jvm.ClassFile.FieldType.boolean), 1, 21),
  (yX2_hasFile, cX2_hasFile, 5, (Option.some Jvm.ClassFile.FieldType.boolean), 2, 42)]
def xmt_1 : List xT := [(yX2_addEdit, cX2_addEdit, 6, (Option.some Jvm.ClassFile.FieldType.int), 2, 46),
  (yX2_takeLines, cX2_takeLines, 4, (Option.none), 2, 50),
  (yX2_putLines, cX2_putLines, 4, (Option.none), 2, 47),
  (yX2_turnEdits, cX2_turnEdits, 5, (Option.none), 2, 45),
  (yX2_isFree, cX2_isFree, 2, (Option.some Jvm.ClassFile.FieldType.boolean), 1, 21),
  (yX2_isUnitOf, cX2_isUnitOf, 4, (Option.some Jvm.ClassFile.FieldType.boolean), 1, 21),
  (yX2_fitsOn, cX2_fitsOn, 6, (Option.some Jvm.ClassFile.FieldType.boolean), 2, 53),
  (yX2_comesOn, cX2_comesOn, 7, (Option.some Jvm.ClassFile.FieldType.boolean), 3, 83),
  (yX2_meets, cX2_meets, 8, (Option.some Jvm.ClassFile.FieldType.boolean), 3, 71),
  (yX2_takeOver, cX2_takeOver, 2, (Option.none), 3, 70),
  (yX3_init, cX3_init, 1, (Option.none), 2, 41),
  (yX3_begin, cX3_begin, 5, (Option.none), 1, 22),
  (yX3_fileOf, cX3_fileOf, 2, (Option.some Jvm.ClassFile.FieldType.int), 1, 21),
  (yX3_takeLines, cX3_takeLines, 7, (Option.none), 1, 24),
  (yX3_putLines, cX3_putLines, 6, (Option.none), 1, 22),
  (yX3_turn, cX3_turn, 4, (Option.none), 1, 22),
  (yX3_placeOf, cX3_placeOf, 10, (Option.some Jvm.ClassFile.FieldType.int), 1, 24),
  (yX3_doAt, cX3_doAt, 8, (Option.none), 2, 56),
  (yX3_gives, cX3_gives, 4, (Option.some Jvm.ClassFile.FieldType.boolean), 2, 48),
  (yX3_isGiven, cX3_isGiven, 7, (Option.some Jvm.ClassFile.FieldType.boolean), 1, 22),
  (yX3_takeOver, cX3_takeOver, 2, (Option.none), 2, 49),
  (yX4_init, cX4_init, 2, (Option.none), 4, 81),
  (yX4_swapLimit, cX4_swapLimit, 3, (Option.some Jvm.ClassFile.FieldType.int), 0, 0),
  (yX4_standing, cX4_standing, 3, (Option.some Jvm.ClassFile.FieldType.int), 3, 64),
  (yX4_takeOut, cX4_takeOut, 3, (Option.none), 2, 46),
  (yX4_isReady, cX4_isReady, 3, (Option.some Jvm.ClassFile.FieldType.boolean), 2, 42),
  (yX4_isReadyAt, cX4_isReadyAt, 4, (Option.some Jvm.ClassFile.FieldType.boolean), 3, 64),
  (yX4_findsWork, cX4_findsWork, 5, (Option.some Jvm.ClassFile.FieldType.boolean), 6, 159),
  (yX4_findLone, cX4_findLone, 4, (Option.some Jvm.ClassFile.FieldType.int), 4, 87),
  (yX4_gatherLone, cX4_gatherLone, 2, (Option.none), 5, 133),
  (yX4_gather, cX4_gather, 7, (Option.none), 5, 133),
  (yX4_unitComes, cX4_unitComes, 5, (Option.some Jvm.ClassFile.FieldType.boolean), 4, 109),
  (yX4_sendBack, cX4_sendBack, 4, (Option.none), 3, 68),
  (yX4_trimTop, cX4_trimTop, 5, (Option.none), 5, 133),
  (yX4_isTopToRun, cX4_isTopToRun, 1, (Option.some Jvm.ClassFile.FieldType.boolean), 2, 41),
  (yX4_runTop, cX4_runTop, 3, (Option.none), 6, 137),
  (yX4_isTouchedByTop, cX4_isTouchedByTop, 6, (Option.some Jvm.ClassFile.FieldType.boolean), 4, 98),
  (yX4_takeTop, cX4_takeTop, 3, (Option.none), 5, 115),
  (yX4_settleTop, cX4_settleTop, 1, (Option.none), 5, 113),
  (yX4_failTop, cX4_failTop, 3, (Option.none), 4, 91)]
def xmt_2 : List xT := [(yX4_takeOver, cX4_takeOver, 2, (Option.none), 4, 91),
  (yX5_init, cX5_init, 1, (Option.none), 2, 41),
  (yX5_length, cX5_length, 1, (Option.some Jvm.ClassFile.FieldType.int), 0, 0),
  (yX5_add, cX5_add, 2, (Option.some Jvm.ClassFile.FieldType.int), 1, 22),
  (yX5_changeAt, cX5_changeAt, 2, (Option.some Jvm.ClassFile.FieldType.int), 1, 21),
  (yX5_placeOf, cX5_placeOf, 3, (Option.some Jvm.ClassFile.FieldType.int), 1, 21),
  (yX5_drop, cX5_drop, 5, (Option.none), 1, 22),
  (yX5_takeOver, cX5_takeOver, 2, (Option.none), 2, 49),
  (yX6_init, cX6_init, 1, (Option.none), 2, 41),
  (yX6_runs, cX6_runs, 1, (Option.some Jvm.ClassFile.FieldType.int), 0, 0),
  (yX6_write, cX6_write, 5, (Option.none), 3, 68),
  (yX6_setFact, cX6_setFact, 3, (Option.none), 1, 22),
  (yX6_sumOf, cX6_sumOf, 5, (Option.some Jvm.ClassFile.FieldType.int), 2, 44),
  (yX6_tell, cX6_tell, 3, (Option.some Jvm.ClassFile.FieldType.int), 1, 21),
  (yX6_twist, cX6_twist, 4, (Option.some Jvm.ClassFile.FieldType.int), 2, 43),
  (yX6_firstWrong, cX6_firstWrong, 2, (Option.some Jvm.ClassFile.FieldType.int), 1, 21),
  (yX6_takeOver, cX6_takeOver, 2, (Option.none), 2, 49),
  (yX7_init, cX7_init, 1, (Option.none), 2, 41),
  (yX7_rows, cX7_rows, 1, (Option.some Jvm.ClassFile.FieldType.int), 0, 0),
  (yX7_units, cX7_units, 1, (Option.some Jvm.ClassFile.FieldType.int), 0, 0),
  (yX7_headAt, cX7_headAt, 2, (Option.some Jvm.ClassFile.FieldType.int), 1, 21),
  (yX7_topLength, cX7_topLength, 1, (Option.some Jvm.ClassFile.FieldType.int), 1, 21),
  (yX7_topFailure, cX7_topFailure, 1, (Option.some Jvm.ClassFile.FieldType.int), 1, 21),
  (yX7_isTopDoomed, cX7_isTopDoomed, 1, (Option.some Jvm.ClassFile.FieldType.boolean), 1, 21),
  (yX7_changeCount, cX7_changeCount, 1, (Option.some Jvm.ClassFile.FieldType.int), 2, 44),
  (yX7_topChangeCount, cX7_topChangeCount, 1, (Option.some Jvm.ClassFile.FieldType.int), 2, 44),
  (yX7_changesAhead, cX7_changesAhead, 4, (Option.some Jvm.ClassFile.FieldType.int), 1, 21),
  (yX7_changeAt, cX7_changeAt, 4, (Option.some Jvm.ClassFile.FieldType.int), 1, 21),
  (yX7_holdsChange, cX7_holdsChange, 3, (Option.some Jvm.ClassFile.FieldType.boolean), 1, 21),
  (yX7_add, cX7_add, 3, (Option.none), 2, 45),
  (yX7_push, cX7_push, 4, (Option.none), 1, 22),
  (yX7_dropUnit, cX7_dropUnit, 2, (Option.none), 3, 74),
  (yX7_dropUnits, cX7_dropUnits, 4, (Option.none), 2, 51),
  (yX7_dropTop, cX7_dropTop, 1, (Option.none), 3, 74),
  (yX7_takeTop, cX7_takeTop, 2, (Option.none), 4, 94),
  (yX7_doomTop, cX7_doomTop, 2, (Option.none), 1, 22),
  (yX7_halveTop, cX7_halveTop, 3, (Option.none), 2, 45),
  (yX7_takeOver, cX7_takeOver, 2, (Option.none), 2, 49),
  (yX8_init, cX8_init, 2, (Option.none), 2, 41),
  (yX8_made, cX8_made, 1, (Option.some Jvm.ClassFile.FieldType.int), 0, 0)]
def xmt_3 : List xT := [(yX8_triesDone, cX8_triesDone, 1, (Option.some Jvm.ClassFile.FieldType.int), 0, 0),
  (yX8_kindOf, cX8_kindOf, 2, (Option.some Jvm.ClassFile.FieldType.int), 1, 21),
  (yX8_subjectOf, cX8_subjectOf, 2, (Option.some Jvm.ClassFile.FieldType.int), 1, 21),
  (yX8_add, cX8_add, 5, (Option.some Jvm.ClassFile.FieldType.int), 1, 22),
  (yX8_setOdds, cX8_setOdds, 3, (Option.none), 1, 22),
  (yX8_setTries, cX8_setTries, 3, (Option.none), 0, 0),
  (yX8_passes, cX8_passes, 8, (Option.some Jvm.ClassFile.FieldType.boolean), 4, 101),
  (yX8_standsOn, cX8_standsOn, 7, (Option.some Jvm.ClassFile.FieldType.boolean), 3, 75),
  (yX8_sumOf, cX8_sumOf, 6, (Option.some Jvm.ClassFile.FieldType.int), 1, 24),
  (yX8_isAllKnown, cX8_isAllKnown, 6, (Option.some Jvm.ClassFile.FieldType.boolean), 2, 50),
  (yX8_isRising, cX8_isRising, 6, (Option.some Jvm.ClassFile.FieldType.boolean), 1, 24),
  (yX8_takeOver, cX8_takeOver, 2, (Option.none), 2, 49),
  (yX9_init, cX9_init, 2, (Option.none), 5, 102),
  (yX9_line, cX9_line, 4, (Option.some Jvm.ClassFile.FieldType.int), 3, 79),
  (yX9_test, cX9_test, 5, (Option.some Jvm.ClassFile.FieldType.int), 2, 46),
  (yX9_odds, cX9_odds, 3, (Option.some Jvm.ClassFile.FieldType.int), 2, 44),
  (yX9_tries, cX9_tries, 3, (Option.some Jvm.ClassFile.FieldType.int), 1, 22),
  (yX9_holds, cX9_holds, 3, (Option.some Jvm.ClassFile.FieldType.int), 4, 101),
  (yX9_change, cX9_change, 2, (Option.some Jvm.ClassFile.FieldType.int), 2, 44),
  (yX9_edit, cX9_edit, 9, (Option.some Jvm.ClassFile.FieldType.int), 3, 73),
  (yX9_revert, cX9_revert, 3, (Option.some Jvm.ClassFile.FieldType.int), 3, 78),
  (yX9_pair, cX9_pair, 3, (Option.some Jvm.ClassFile.FieldType.int), 2, 44),
  (yX9_fits, cX9_fits, 2, (Option.some Jvm.ClassFile.FieldType.int), 3, 78),
  (yX9_touches, cX9_touches, 4, (Option.some Jvm.ClassFile.FieldType.int), 4, 98),
  (yX9_queue, cX9_queue, 2, (Option.some Jvm.ClassFile.FieldType.int), 2, 44),
  (yX9_leave, cX9_leave, 2, (Option.some Jvm.ClassFile.FieldType.int), 3, 68),
  (yX9_hand, cX9_hand, 3, (Option.some Jvm.ClassFile.FieldType.int), 2, 45),
  (yX9_size, cX9_size, 2, (Option.some Jvm.ClassFile.FieldType.int), 1, 22),
  (yX9_go, cX9_go, 4, (Option.some Jvm.ClassFile.FieldType.int), 7, 183),
  (yX9_about, cX9_about, 3, (Option.some Jvm.ClassFile.FieldType.int), 4, 86),
  (yX9_inLine, cX9_inLine, 2, (Option.some Jvm.ClassFile.FieldType.int), 2, 42),
  (yX9_inWork, cX9_inWork, 2, (Option.some Jvm.ClassFile.FieldType.int), 2, 44),
  (yX9_at, cX9_at, 6, (Option.some Jvm.ClassFile.FieldType.int), 2, 41),
  (yX9_log, cX9_log, 3, (Option.some Jvm.ClassFile.FieldType.int), 2, 43),
  (yX9_alter, cX9_alter, 4, (Option.some Jvm.ClassFile.FieldType.int), 3, 66),
  (yX9_check, cX9_check, 1, (Option.some Jvm.ClassFile.FieldType.int), 2, 42),
  (yX9_keep, cX9_keep, 1, (Option.some Jvm.ClassFile.FieldType.int), 5, 112),
  (yX9_goBack, cX9_goBack, 1, (Option.some Jvm.ClassFile.FieldType.int), 5, 112),
  (yX9_count, cX9_count, 2, (Option.some Jvm.ClassFile.FieldType.int), 3, 64),
  (yX9_isIn, cX9_isIn, 2, (Option.some Jvm.ClassFile.FieldType.boolean), 0, 0)]
def xmt_4 : List xT := [(yX9_asNumber, cX9_asNumber, 1, (Option.some Jvm.ClassFile.FieldType.int), 0, 0),
  (yX9_isChange, cX9_isChange, 2, (Option.some Jvm.ClassFile.FieldType.boolean), 1, 21),
  (yX9_isTakenState, cX9_isTakenState, 2, (Option.some Jvm.ClassFile.FieldType.boolean), 1, 20),
  (yX9_isTestAsTold, cX9_isTestAsTold, 4, (Option.some Jvm.ClassFile.FieldType.boolean), 1, 21),
  (yX10_in, cX10_in, 6, (Option.some Jvm.ClassFile.FieldType.boolean), 0, 0),
  (yX10_init, cX10_init, 2, (Option.none), 1, 20),
  (yX10_lines, cX10_lines, 3, (Option.some Jvm.ClassFile.FieldType.int), 0, 0),
  (yX10_cell, cX10_cell, 3, (Option.some Jvm.ClassFile.FieldType.int), 0, 0),
  (yX10_copyState, cX10_copyState, 5, (Option.none), 1, 22),
  (yX10_isFile, cX10_isFile, 1, (Option.some Jvm.ClassFile.FieldType.boolean), 1, 25),
  (yX10_line, cX10_line, 4, (Option.some Jvm.ClassFile.FieldType.int), 2, 45),
  (yX10_at, cX10_at, 5, (Option.some Jvm.ClassFile.FieldType.int), 2, 45),
  (yX10_test, cX10_test, 7, (Option.some Jvm.ClassFile.FieldType.int), 1, 25),
  (yX10_isTest, cX10_isTest, 2, (Option.some Jvm.ClassFile.FieldType.boolean), 1, 25),
  (yX10_odds, cX10_odds, 3, (Option.some Jvm.ClassFile.FieldType.int), 2, 46),
  (yX10_tries, cX10_tries, 3, (Option.some Jvm.ClassFile.FieldType.int), 1, 25),
  (yX10_name, cX10_name, 2, (Option.some Jvm.ClassFile.FieldType.int), 1, 25),
  (yX10_givers, cX10_givers, 6, (Option.some Jvm.ClassFile.FieldType.int), 2, 46),
  (yX10_isSo, cX10_isSo, 8, (Option.some Jvm.ClassFile.FieldType.boolean), 3, 71),
  (yX10_holds, cX10_holds, 3, (Option.some Jvm.ClassFile.FieldType.int), 4, 98),
  (yX10_isHeld, cX10_isHeld, 7, (Option.some Jvm.ClassFile.FieldType.boolean), 4, 98),
  (yX10_isChange, cX10_isChange, 2, (Option.some Jvm.ClassFile.FieldType.boolean), 1, 25),
  (yX10_newChange, cX10_newChange, 3, (Option.some Jvm.ClassFile.FieldType.int), 0, 0),
  (yX10_change, cX10_change, 2, (Option.some Jvm.ClassFile.FieldType.int), 1, 25),
  (yX10_hasFile, cX10_hasFile, 5, (Option.some Jvm.ClassFile.FieldType.boolean), 0, 0),
  (yX10_markAt, cX10_markAt, 3, (Option.some Jvm.ClassFile.FieldType.int), 1, 25),
  (yX10_edit, cX10_edit, 11, (Option.some Jvm.ClassFile.FieldType.int), 2, 47),
  (yX10_fitsAt, cX10_fitsAt, 11, (Option.some Jvm.ClassFile.FieldType.int), 1, 22),
  (yX10_fitsIn, cX10_fitsIn, 5, (Option.some Jvm.ClassFile.FieldType.boolean), 2, 52),
  (yX10_apply, cX10_apply, 9, (Option.none), 2, 52),
  (yX10_moveLine, cX10_moveLine, 5, (Option.none), 1, 22),
  (yX10_comes, cX10_comes, 4, (Option.some Jvm.ClassFile.FieldType.boolean), 3, 80),
  (yX10_revert, cX10_revert, 8, (Option.some Jvm.ClassFile.FieldType.int), 2, 52),
  (yX10_pair, cX10_pair, 3, (Option.some Jvm.ClassFile.FieldType.int), 2, 46),
  (yX10_fits, cX10_fits, 2, (Option.some Jvm.ClassFile.FieldType.int), 3, 76),
  (yX10_gives, cX10_gives, 8, (Option.some Jvm.ClassFile.FieldType.boolean), 2, 46),
  (yX10_isTouched, cX10_isTouched, 5, (Option.some Jvm.ClassFile.FieldType.boolean), 3, 73),
  (yX10_touches, cX10_touches, 3, (Option.some Jvm.ClassFile.FieldType.int), 4, 97),
  (yX10_placeOf, cX10_placeOf, 3, (Option.some Jvm.ClassFile.FieldType.int), 0, 0),
  (yX10_queue, cX10_queue, 2, (Option.some Jvm.ClassFile.FieldType.int), 2, 46)]
def xmt_5 : List xT := [(yX10_out, cX10_out, 5, (Option.none), 1, 22),
  (yX10_leave, cX10_leave, 2, (Option.some Jvm.ClassFile.FieldType.int), 2, 46),
  (yX10_hand, cX10_hand, 4, (Option.some Jvm.ClassFile.FieldType.int), 2, 46),
  (yX10_size, cX10_size, 3, (Option.some Jvm.ClassFile.FieldType.int), 1, 25),
  (yX10_isFree, cX10_isFree, 2, (Option.some Jvm.ClassFile.FieldType.boolean), 0, 0),
  (yX10_isReady, cX10_isReady, 2, (Option.some Jvm.ClassFile.FieldType.boolean), 1, 21),
  (yX10_isFirst, cX10_isFirst, 3, (Option.some Jvm.ClassFile.FieldType.boolean), 1, 22),
  (yX10_hasKind, cX10_hasKind, 3, (Option.some Jvm.ClassFile.FieldType.boolean), 0, 0),
  (yX10_unitComes, cX10_unitComes, 3, (Option.some Jvm.ClassFile.FieldType.boolean), 4, 103),
  (yX10_fitsAlone, cX10_fitsAlone, 2, (Option.some Jvm.ClassFile.FieldType.boolean), 5, 125),
  (yX10_unitOut, cX10_unitOut, 5, (Option.none), 2, 46),
  (yX10_firstReady, cX10_firstReady, 4, (Option.some Jvm.ClassFile.FieldType.int), 2, 44),
  (yX10_newRow, cX10_newRow, 3, (Option.none), 0, 0),
  (yX10_addUnit, cX10_addUnit, 3, (Option.none), 0, 0),
  (yX10_makeAlone, cX10_makeAlone, 2, (Option.none), 6, 146),
  (yX10_makeMany, cX10_makeMany, 4, (Option.none), 6, 146),
  (yX10_makeBatch, cX10_makeBatch, 3, (Option.some Jvm.ClassFile.FieldType.boolean), 7, 169),
  (yX10_lookThrough, cX10_lookThrough, 5, (Option.none), 5, 125),
  (yX10_cut, cX10_cut, 5, (Option.none), 1, 22),
  (yX10_changesOf, cX10_changesOf, 5, (Option.some Jvm.ClassFile.FieldType.int), 0, 0),
  (yX10_run, cX10_run, 11, (Option.none), 5, 124),
  (yX10_go, cX10_go, 5, (Option.some Jvm.ClassFile.FieldType.int), 8, 191),
  (yX10_isInWork, cX10_isInWork, 6, (Option.some Jvm.ClassFile.FieldType.boolean), 1, 24),
  (yX10_about, cX10_about, 4, (Option.some Jvm.ClassFile.FieldType.int), 2, 49),
  (yX10_inLine, cX10_inLine, 2, (Option.some Jvm.ClassFile.FieldType.int), 1, 25),
  (yX10_inWork, cX10_inWork, 5, (Option.some Jvm.ClassFile.FieldType.int), 1, 25),
  (yX10_log, cX10_log, 3, (Option.some Jvm.ClassFile.FieldType.int), 1, 25),
  (yX10_alter, cX10_alter, 4, (Option.some Jvm.ClassFile.FieldType.int), 1, 25),
  (yX10_check, cX10_check, 3, (Option.some Jvm.ClassFile.FieldType.int), 0, 0),
  (yX10_keep, cX10_keep, 2, (Option.some Jvm.ClassFile.FieldType.int), 0, 0),
  (yX10_goBack, cX10_goBack, 2, (Option.some Jvm.ClassFile.FieldType.int), 0, 0),
  (yX10_count, cX10_count, 4, (Option.some Jvm.ClassFile.FieldType.int), 1, 24),
  (yL_cell, cL_cell, 2, (Option.some Jvm.ClassFile.FieldType.int), 0, 0),
  (yL_law, cL_law, 4, (Option.some Jvm.ClassFile.FieldType.boolean), 9, 215)]
def xmt : List xT := xmt_0 ++ (xmt_1 ++ (xmt_2 ++ (xmt_3 ++ (xmt_4 ++ (xmt_5)))))
def xcd (mi b : Nat) : List xI := ((xprog[mi]?).getD [])[b]?.getD []
def xnl (mi : Nat) : Nat := match xmt[mi]? with | some t => t.2.2.1 | none => 0
def mk_0 : List (List Bool) := [[true]]
def mk_1 : List (List Bool) := [[true]]
def mk_2 : List (List Bool) := [[true]]
def mk_3 : List (List Bool) := [[true,true], [true,false]]
def mk_4 : List (List Bool) := [[true,true,true,false], [true,true,true,false], [true,true,true,true], [false,false,false,false]]
def mk_5 : List (List Bool) := [[true,true,true], [false,false,false], [true,true,true]]
def mk_6 : List (List Bool) := [[true,true,false,false], [true,true,true,true], [true,true,false,true], [false,false,true,false]]
def mk_7 : List (List Bool) := [[true,true,true,true,false], [false,false,false,false,false], [true,true,true,true,false], [false,false,false,false,false], [false,false,false,false,false]]
def mk_8 : List (List Bool) := [[true,true], [false,false], [false,false]]
def mk_9 : List (List Bool) := [[true,true,false], [false,false,false], [true,true,false], [false,false,false], [false,false,false]]
def mk_10 : List (List Bool) := [[true,true,false], [false,false,false], [false,false,false], [false,false,false]]
def mk_11 : List (List Bool) := [[true,true,true,false,false,false,false], [true,true,true,true,true,false,false], [true,true,true,true,true,false,false], [true,true,true,true,true,true,true], [true,true,true,true,true,true,true], [true,true,true,true,true,true,true], [true,true,true,true,true,true,true], [true,true,true,true,true,false,false], [false,false,false,true,false,false,false]]
def mk_12 : List (List Bool) := [[true,true,true,true,true], [false,false,false,false,false], [true,true,true,true,true]]
def mk_13 : List (List Bool) := [[true,true,true,true,true,true,false,false,false], [false,false,false,false,false,false,false,false,false], [true,true,true,true,true,true,false,false,false], [false,false,false,false,false,false,false,false,false], [true,false,false,true,true,true,true,true,false], [false,false,false,false,false,false,false,false,false], [true,false,false,true,true,true,true,true,false]]
def mk_14 : List (List Bool) := [[true,true,true], [true,true,true], [true,true,true], [false,false,false], [true,true,true]]
def mk_15 : List (List Bool) := [[true], [true], [false]]
def mk_16 : List (List Bool) := [[true,true]]
def mk_17 : List (List Bool) := [[true,true], [false,false], [false,false]]
def mk_18 : List (List Bool) := [[true,true], [false,false], [false,false]]
def mk_19 : List (List Bool) := [[true,true,true], [false,false,false]]
def mk_20 : List (List Bool) := [[true,true,true,true], [false,false,false,false], [true,true,true,true], [false,false,false,false], [true,true,true,true]]
def mk_21 : List (List Bool) := [[true,true]]
def mk_22 : List (List Bool) := [[true], [true], [true], [true], [true], [true], [true], [true], [true], [true]]
def mk_23 : List (List Bool) := [[true]]
def mk_24 : List (List Bool) := [[true,true,true], [true,false,true], [true,false,true], [true,false,false], [true,false,false], [true,false,false], [true,false,false], [true,false,false], [true,false,false]]
def mk_25 : List (List Bool) := [[true], [true]]
def mk_26 : List (List Bool) := [[true,true], [false,false]]
def mk_27 : List (List Bool) := [[true,true], [false,false]]
def mk_28 : List (List Bool) := [[true,true,true], [false,false,false]]
def mk_29 : List (List Bool) := [[true,true], [false,false]]
def mk_30 : List (List Bool) := [[true,true,true], [false,false,false]]
def mk_31 : List (List Bool) := [[true,true], [false,false]]
def mk_32 : List (List Bool) := [[true,true,true], [false,false,false]]
def mk_33 : List (List Bool) := [[true,true], [false,false]]
def mk_34 : List (List Bool) := [[true,true], [false,false]]
def mk_35 : List (List Bool) := [[true,true], [true,true], [false,false], [false,false], [false,false]]
def mk_36 : List (List Bool) := [[true,true,true], [true,true,true], [false,false,false]]
def mk_37 : List (List Bool) := [[true,true,true,false], [true,true,true,false], [false,false,false,true]]
def mk_38 : List (List Bool) := [[true,true,true], [true,true,true], [true,true,true], [false,false,false], [false,false,false], [false,false,false]]
def mk_39 : List (List Bool) := [[true,true,true,false,false], [true,true,true,false,false], [true,true,true,true,true], [true,true,true,true,true], [true,true,true,true,true], [false,false,false,false,false]]
def mk_40 : List (List Bool) := [[true,true,true,true,true,false], [true,true,true,true,true,false], [true,true,false,false,false,true], [false,false,false,false,false,true], [false,false,false,false,false,true]]
def mk_41 : List (List Bool) := [[true,true,true,true], [false,false,false,false]]
def mk_42 : List (List Bool) := [[true,true,true,true], [false,false,false,false]]
def mk_43 : List (List Bool) := [[true,true,true,false,false], [true,true,true,false,false], [true,true,true,true,true], [true,true,true,true,true], [true,false,true,true,false], [false,false,false,false,false]]
def mk_44 : List (List Bool) := [[true,true], [true,true], [true,true], [false,false], [false,false], [false,false], [false,false]]
def mk_45 : List (List Bool) := [[true,true,true,false], [true,true,true,false], [true,false,true,true], [false,false,true,false], [false,false,false,false], [false,false,false,false], [false,false,false,false]]
def mk_46 : List (List Bool) := [[true,true,true,true,false,false], [true,true,true,true,false,false], [true,true,true,true,true,true], [true,true,true,true,true,true], [true,true,true,true,true,true], [false,false,false,false,false,false]]
def mk_47 : List (List Bool) := [[true,true,true,true,false,false,false], [true,true,true,true,false,false,false], [true,true,true,true,true,true,false], [true,true,true,true,true,true,false], [true,true,true,true,true,true,true], [true,true,true,true,true,true,false], [false,false,false,false,false,false,false]]
def mk_48 : List (List Bool) := [[true,true,true,true,true,false,false,false], [true,true,true,true,true,false,false,false], [true,true,true,true,true,true,true,false], [true,true,true,true,true,true,true,true], [true,true,true,true,true,true,true,true], [true,true,true,true,true,true,true,true], [true,true,true,true,true,true,true,true], [true,true,true,true,true,true,true,false], [true,true,true,true,true,true,true,false], [false,false,false,false,false,false,false,false]]
def mk_49 : List (List Bool) := [[true,true], [true,true], [true,true], [true,true], [true,true], [true,true], [true,true], [true,true], [true,true], [true,true]]
def mk_50 : List (List Bool) := [[true], [true], [true], [true], [true], [true], [true], [false]]
def mk_51 : List (List Bool) := [[true,true,true,true,true], [true,true,false,true,true], [true,true,false,false,true], [false,false,false,false,false]]
def mk_52 : List (List Bool) := [[true,true], [false,false]]
def mk_53 : List (List Bool) := [[true,true,true,true,false,false,false], [true,true,true,true,false,false,false], [true,true,true,true,true,false,false], [true,true,true,true,true,true,false], [true,true,true,true,true,true,false], [true,true,true,true,true,true,false], [true,true,true,true,true,true,false], [true,true,true,true,true,true,false], [true,true,true,true,true,true,false], [true,true,true,true,true,true,true], [true,true,true,true,true,true,true], [true,true,true,true,true,true,true], [true,true,true,true,true,true,true], [false,false,false,false,false,false,false]]
def mk_54 : List (List Bool) := [[true,true,true,true,false,false], [true,true,true,true,false,false], [true,true,true,true,true,true], [true,true,true,true,true,true], [true,true,true,true,true,true], [false,false,false,false,false,false]]
def mk_55 : List (List Bool) := [[true,true,true,false], [true,true,true,false], [true,true,true,false], [true,true,true,false], [true,true,true,false], [true,true,true,false], [true,true,true,false], [true,true,true,false], [true,true,true,false], [true,true,true,false], [true,true,true,false], [true,true,true,true], [true,true,true,true], [true,true,true,true], [true,true,true,true], [true,true,true,true], [false,false,false,false]]
def mk_56 : List (List Bool) := [[true,true,true,true,false,false,false,false,false,false], [true,true,true,true,false,false,false,false,false,false], [true,true,true,true,true,false,false,false,false,false], [true,true,true,true,true,true,false,false,false,false], [true,true,true,true,true,true,true,false,false,false], [true,true,true,true,true,true,true,false,false,false], [true,true,true,true,true,true,true,true,false,false], [true,true,true,true,true,true,true,true,false,false], [true,true,true,true,true,true,true,true,false,false], [true,true,true,true,true,true,true,true,false,false], [true,true,true,true,true,true,true,true,false,false], [true,true,true,true,true,true,true,true,false,false], [true,true,true,true,true,true,true,true,false,false], [true,true,true,true,true,true,true,true,true,true], [true,true,true,true,true,true,true,true,false,true], [true,true,true,true,true,true,true,true,false,true], [true,true,true,true,true,true,true,true,false,true], [true,true,true,true,true,true,true,true,false,true], [true,true,true,true,true,true,true,true,true,false], [true,true,true,true,true,true,true,true,false,false], [false,false,false,false,false,false,false,false,false,false]]
def mk_57 : List (List Bool) := [[true,true,true,true,true,false,false,false], [true,true,true,true,true,false,false,false], [true,true,true,true,true,true,false,false], [true,true,true,true,true,true,true,false], [true,true,true,true,true,true,true,false], [true,true,true,true,true,true,true,true], [true,true,true,true,true,true,true,true], [true,true,true,true,true,true,true,true], [false,false,false,false,false,false,false,false]]
def mk_58 : List (List Bool) := [[true,true,true,true], [true,true,true,true], [true,true,true,true], [false,false,true,true], [false,false,false,false], [false,false,false,false], [false,false,false,false], [false,false,false,false]]
def mk_59 : List (List Bool) := [[true,true,true,true,true,false,false], [true,true,true,true,true,true,false], [true,true,true,true,true,true,false], [true,true,true,true,true,true,false], [false,false,false,false,false,false,false], [true,true,true,true,true,true,false], [false,false,false,false,false,false,false]]
def mk_60 : List (List Bool) := [[true,true], [true,true], [true,true], [true,true], [true,true], [true,true], [true,true], [false,false]]
def mk_61 : List (List Bool) := [[true,true], [true,true], [true,true], [true,true], [true,true], [true,true], [false,false]]
def mk_62 : List (List Bool) := [[true,true,false]]
def mk_63 : List (List Bool) := [[true,true,false], [true,true,false], [true,true,false], [true,true,false], [true,true,false], [false,false,false], [false,false,false], [false,false,false]]
def mk_64 : List (List Bool) := [[true,true,true], [true,true,false], [false,false,false]]
def mk_65 : List (List Bool) := [[true,true,false], [true,true,false], [true,false,true], [false,false,false], [false,false,false], [false,false,false], [false,false,false]]
def mk_66 : List (List Bool) := [[true,true,false,false], [true,true,false,false], [true,true,true,false], [false,false,false,false], [true,true,true,false], [true,true,false,false], [false,true,false,false], [false,false,false,false], [false,false,false,false], [false,false,false,false]]
def mk_67 : List (List Bool) := [[true,false,false,false,false], [true,true,true,false,false], [true,false,true,false,false], [true,false,true,false,false], [true,false,true,true,false], [true,false,true,true,false], [true,false,true,true,true], [true,false,true,true,false], [true,false,true,true,false], [true,false,true,false,false], [true,false,true,false,false], [true,false,false,false,false], [false,false,false,false,false], [false,false,false,false,false], [false,false,false,false,false]]
def mk_68 : List (List Bool) := [[true,false,false,false], [true,true,true,false], [true,true,true,false], [true,true,true,false], [true,true,true,false], [true,true,true,false], [true,true,true,true], [true,true,true,true], [true,true,true,false], [true,true,false,false], [false,true,false,false], [false,false,false,false], [false,false,false,false]]
def mk_69 : List (List Bool) := [[true,true], [true,true], [true,true], [false,false], [false,false], [true,true], [false,false]]
def mk_70 : List (List Bool) := [[true,false,false,false,false,false,false], [true,false,false,false,false,false,false], [true,false,false,false,false,false,false], [true,false,false,false,false,false,false], [true,true,true,true,false,false,false], [true,true,true,true,false,false,false], [true,true,true,true,false,false,false], [true,true,true,true,false,false,false], [true,true,true,true,true,false,false], [true,true,true,true,true,true,false], [true,true,true,true,true,true,false], [true,true,true,true,true,true,false], [true,true,true,true,true,true,false], [true,true,true,true,true,true,false], [true,true,true,true,true,true,true], [true,true,true,true,true,true,true], [true,true,true,true,true,true,true], [true,true,true,true,true,false,false], [true,true,true,true,true,false,false], [true,true,true,true,false,false,false], [true,true,true,true,false,false,false], [true,true,true,true,false,false,false], [false,false,false,false,false,false,false]]
def mk_71 : List (List Bool) := [[true,true,true,true,false], [true,true,true,true,false], [true,true,false,true,true], [true,false,false,true,true], [true,false,false,true,true], [false,false,false,false,false], [false,false,false,false,false], [false,false,false,false,false], [false,false,false,false,false]]
def mk_72 : List (List Bool) := [[true,true,true,false], [true,true,true,false], [true,false,true,true], [false,false,false,false]]
def mk_73 : List (List Bool) := [[true,false,false,false,false], [true,false,false,false,false], [true,false,false,false,false], [true,false,false,false,false], [true,true,true,true,false], [true,true,true,true,false], [true,true,true,true,true], [true,true,true,true,false], [true,true,true,true,false], [true,true,true,true,false], [true,true,true,true,false], [false,false,false,false,false]]
def mk_74 : List (List Bool) := [[true], [true], [false], [false], [false]]
def mk_75 : List (List Bool) := [[true,false,false], [true,true,true], [true,true,true], [true,true,true], [true,true,true], [true,true,true], [true,true,false], [true,true,false], [true,true,false], [false,false,false], [true,true,false], [false,false,false]]
def mk_76 : List (List Bool) := [[true,true,false,false,false,false], [true,true,false,false,false,false], [true,false,true,false,false,false], [true,false,true,true,false,false], [true,false,true,true,true,true], [true,false,true,true,true,true], [true,false,true,true,true,true], [true,false,true,true,true,true], [false,false,false,false,false,false]]
def mk_77 : List (List Bool) := [[true,false,false], [true,false,false], [true,false,false], [true,true,true], [true,true,true], [true,true,true], [true,true,true], [true,true,true], [true,true,true], [true,false,false], [false,false,false]]
def mk_78 : List (List Bool) := [[true], [true], [false], [true], [true], [true], [false]]
def mk_79 : List (List Bool) := [[true,false,false], [true,false,false], [true,true,false], [true,true,true], [true,true,true], [true,true,false], [true,true,false], [false,false,false]]
def mk_80 : List (List Bool) := [[true,true], [true,true], [true,true], [true,true], [true,true], [true,true], [true,true]]
def mk_81 : List (List Bool) := [[true], [true]]
def mk_82 : List (List Bool) := [[true]]
def mk_83 : List (List Bool) := [[true,true], [true,false]]
def mk_84 : List (List Bool) := [[true,true], [true,true], [false,false], [false,false], [false,false]]
def mk_85 : List (List Bool) := [[true,true,false], [true,true,true], [true,true,true], [true,true,true], [false,false,false]]
def mk_86 : List (List Bool) := [[true,true,false,false,false], [true,true,true,true,false], [true,true,true,true,false], [true,true,true,true,false], [true,true,true,true,false], [true,false,true,false,false]]
def mk_87 : List (List Bool) := [[true,true], [true,true]]
def mk_88 : List (List Bool) := [[true], [true], [true]]
def mk_89 : List (List Bool) := [[true]]
def mk_90 : List (List Bool) := [[true,true,true,true,false], [true,true,true,true,false], [true,false,true,true,true], [true,false,true,true,true], [true,false,false,true,false], [true,false,false,true,false], [true,false,false,false,false]]
def mk_91 : List (List Bool) := [[true,true,true], [true,true,true], [false,false,false]]
def mk_92 : List (List Bool) := [[true,true,false,false,false], [true,true,true,true,true], [true,true,false,true,true], [false,false,true,false,false]]
def mk_93 : List (List Bool) := [[true,true,true], [false,false,false]]
def mk_94 : List (List Bool) := [[true,true,true,true], [true,true,true,true], [true,true,true,false], [false,false,false,false]]
def mk_95 : List (List Bool) := [[true,false], [true,true], [true,true], [true,true], [true,true], [false,false]]
def mk_96 : List (List Bool) := [[true,true], [true,true], [true,true]]
def mk_97 : List (List Bool) := [[true], [true], [true], [true], [true], [true], [true]]
def mk_98 : List (List Bool) := [[true]]
def mk_99 : List (List Bool) := [[true]]
def mk_100 : List (List Bool) := [[true,true], [false,false]]
def mk_101 : List (List Bool) := [[true], [false], [false], [false]]
def mk_102 : List (List Bool) := [[true], [false]]
def mk_103 : List (List Bool) := [[true], [false], [false], [false]]
def mk_104 : List (List Bool) := [[true], [false]]
def mk_105 : List (List Bool) := [[true], [false], [false]]
def mk_106 : List (List Bool) := [[true,true,false,false], [true,true,true,true], [true,true,false,true], [true,true,false,true], [true,true,false,true], [false,false,true,false]]
def mk_107 : List (List Bool) := [[true,true,false,false], [true,false,true,true], [false,false,false,false], [true,false,true,true], [true,false,true,true], [false,false,false,false], [true,false,true,true], [true,false,false,true], [true,false,false,true], [true,false,false,true], [false,false,false,false]]
def mk_108 : List (List Bool) := [[true,true,false], [true,true,true], [true,true,true], [true,true,true], [false,false,false], [true,true,true], [false,false,false]]
def mk_109 : List (List Bool) := [[true,true,true], [true,true,true], [true,true,true], [true,false,true], [true,false,false], [false,false,false]]
def mk_110 : List (List Bool) := [[true,true,true,true], [true,false,true,true], [true,false,true,true], [true,false,false,true], [true,false,false,false]]
def mk_111 : List (List Bool) := [[true,true], [true,true], [true,true], [true,true], [true,false], [true,false], [true,false], [true,false], [false,false]]
def mk_112 : List (List Bool) := [[true,true,true,false], [true,true,true,true], [true,false,true,false]]
def mk_113 : List (List Bool) := [[true], [true], [true], [true]]
def mk_114 : List (List Bool) := [[true,false], [true,false], [true,false], [true,false], [true,true], [false,false]]
def mk_115 : List (List Bool) := [[true,true], [true,true], [false,false]]
def mk_116 : List (List Bool) := [[true,false,false], [true,false,false], [true,true,false], [true,true,true], [true,true,true], [true,true,true], [false,false,false], [false,false,false]]
def mk_117 : List (List Bool) := [[true,true], [true,true], [true,true], [true,true], [true,true], [true,true], [true,true]]
def mk_118 : List (List Bool) := [[true,true], [true,true], [true,true], [true,true], [true,true], [true,true]]
def mk_119 : List (List Bool) := [[true]]
def mk_120 : List (List Bool) := [[true]]
def mk_121 : List (List Bool) := [[true,true], [false,false]]
def mk_122 : List (List Bool) := [[true,true], [false,false]]
def mk_123 : List (List Bool) := [[true,true,true,true,true], [true,false,true,true,true], [true,false,false,true,true], [true,false,false,false,true], [true,false,false,false,false], [true,false,false,false,false]]
def mk_124 : List (List Bool) := [[true,true,true], [false,false,false]]
def mk_125 : List (List Bool) := [[true,true,true]]
def mk_126 : List (List Bool) := [[true,true,true,true,false,false,false,false], [true,true,false,false,false,false,false,false], [true,false,false,false,true,false,false,false], [true,false,false,false,true,true,false,false], [true,false,false,false,true,true,true,true], [true,false,false,false,true,true,true,true], [true,false,false,false,false,false,true,false], [false,false,false,false,false,false,false,false], [false,false,false,false,false,false,false,false]]
def mk_127 : List (List Bool) := [[true,true,true,true,false,false,false], [true,true,true,true,false,false,false], [true,true,true,true,true,false,false], [true,true,true,true,true,true,false], [false,false,true,true,true,true,true], [false,false,true,true,true,true,true], [false,false,false,false,false,true,true], [false,false,false,false,false,false,false], [false,false,false,false,false,false,false], [false,false,true,true,true,true,false], [false,false,false,false,false,true,false], [false,false,false,false,false,false,false], [false,false,false,false,false,false,false], [false,false,true,true,true,false,false], [false,false,false,false,false,false,false], [false,false,true,true,true,true,true], [false,false,true,true,true,true,true], [false,false,false,false,false,false,true], [false,false,false,false,false,false,false], [false,false,false,false,false,false,false], [false,false,true,true,true,false,false], [false,false,false,false,false,false,false]]
def mk_128 : List (List Bool) := [[true,true,true,false,false,false], [true,true,true,true,false,false], [true,true,true,true,true,true], [true,true,true,false,true,true], [true,true,true,false,true,true], [false,false,false,true,false,false]]
def mk_129 : List (List Bool) := [[true,true,true,false,false,false], [true,true,true,false,false,false], [true,true,true,true,true,false], [true,true,true,true,true,false], [true,true,true,true,true,false], [true,true,true,true,true,false], [true,true,true,true,true,false], [false,false,false,false,false,false]]
def mk_130 : List (List Bool) := [[true,true,true,false,false,false], [true,true,true,false,false,false], [true,true,true,true,true,false], [true,true,true,true,true,false], [true,true,true,true,true,false], [true,true,true,true,true,true], [true,true,true,true,true,true], [true,true,true,true,true,false], [false,false,false,false,false,false]]
def mk_131 : List (List Bool) := [[true,true], [true,true], [true,true], [true,true], [true,true], [true,true]]
def mk_132 : List (List Bool) := [[true,true], [true,true], [true,false]]
def mk_133 : List (List Bool) := [[true,true,true,false], [true,true,true,false], [false,false,false,false], [true,true,true,false], [true,true,true,false], [true,true,true,false], [true,true,true,false], [true,true,true,false], [true,true,false,false], [false,false,false,true]]
def mk_134 : List (List Bool) := [[true,true,true,true,true], [true,true,true,true,true], [true,true,true,true,true], [true,true,true,true,true], [true,true,true,true,true], [false,false,false,false,false]]
def mk_135 : List (List Bool) := [[true,true,true], [true,true,true], [true,true,true], [false,false,false], [true,true,true], [false,false,false]]
def mk_136 : List (List Bool) := [[true,true,true], [false,false,false], [true,true,true], [false,false,false]]
def mk_137 : List (List Bool) := [[true,true,true], [true,true,true], [true,true,true], [true,true,true], [false,false,false], [true,true,true], [false,false,false], [false,false,false]]
def mk_138 : List (List Bool) := [[true,true], [false,false], [true,true], [true,true], [true,true], [true,false], [true,false], [false,false]]
def mk_139 : List (List Bool) := [[true,true,true,true,true,true,true,false,false], [true,true,true,true,true,true,true,false,false], [true,true,true,true,true,true,true,false,false], [false,false,false,false,false,false,false,false,false], [true,true,true,true,true,true,true,false,false], [true,true,true,true,true,true,true,false,false], [true,true,true,true,true,true,true,false,false], [false,false,false,false,false,false,false,false,false], [true,true,true,true,true,true,true,false,false], [true,true,true,true,true,true,true,false,false], [true,true,true,true,true,true,true,false,false], [false,false,false,false,false,false,false,false,false], [true,true,true,true,true,true,true,true,false], [true,true,true,true,true,true,true,true,false], [true,true,true,true,true,true,true,true,false], [true,true,true,true,true,true,true,true,false], [true,true,true,true,true,true,true,true,false], [true,true,true,true,true,true,true,true,false], [true,true,true,true,true,true,true,true,false], [false,false,false,false,false,false,false,false,false], [true,true,true,true,true,true,true,false,false], [true,true,false,true,false,false,true,false,false], [true,true,false,false,false,false,true,false,true], [true,true,false,false,false,false,false,false,false], [false,false,false,false,false,false,false,false,false]]
def mk_140 : List (List Bool) := [[true,true,false], [true,true,false], [true,true,false], [true,true,false], [true,true,false], [true,true,false], [true,true,false], [true,false,true], [true,false,false], [true,false,false], [true,false,false], [true,false,false], [true,false,false], [false,false,false]]
def mk_141 : List (List Bool) := [[true,true,true], [true,true,true], [true,true,true], [false,false,false], [true,true,true], [true,true,true], [true,true,true], [false,false,false], [true,true,true], [false,false,false]]
def mk_142 : List (List Bool) := [[true,true], [true,true], [true,true], [false,false], [false,false], [false,false]]
def mk_143 : List (List Bool) := [[true,true,true,false], [true,true,true,false], [true,true,true,false], [true,true,true,false], [false,false,false,false], [true,true,true,false], [true,true,true,false], [true,false,false,true], [false,false,false,false], [false,false,false,false]]
def mk_144 : List (List Bool) := [[true,true], [true,true], [true,true], [true,true], [true,true], [false,false], [true,true], [true,true], [false,false]]
def mk_145 : List (List Bool) := [[true,true], [true,true], [true,true], [true,true], [true,true], [false,false]]
def mk_146 : List (List Bool) := [[true,true,true], [true,true,true], [true,true,true], [true,true,true], [true,true,true], [false,false,false], [false,false,false]]
def mk_147 : List (List Bool) := [[true,true], [false,false], [true,true], [false,false]]
def mk_148 : List (List Bool) := [[true,true,false,false], [false,false,false,false], [true,true,false,false], [true,true,false,false], [true,true,false,false], [true,true,true,true], [true,true,true,true], [true,true,true,true], [true,true,true,true], [true,true,true,true], [true,true,true,true], [true,true,true,true], [false,false,true,false]]
def mk_149 : List (List Bool) := [[true,true,true], [true,true,true], [true,true,true], [true,true,false], [false,false,false], [true,true,false], [false,false,false], [true,true,false], [false,false,false], [true,true,false], [false,false,false], [true,true,false], [false,false,false], [true,true,false], [false,false,false], [false,false,false]]
def mk_150 : List (List Bool) := [[true,true], [false,false]]
def mk_151 : List (List Bool) := [[true,true], [false,false]]
def mk_152 : List (List Bool) := [[true,true,true,true,true,false], [true,true,true,true,true,false], [true,true,true,true,true,false], [true,true,true,true,true,false], [false,false,false,false,false,false], [true,true,true,true,true,false], [true,true,true,true,true,false], [true,true,true,true,true,false], [true,true,true,true,true,false], [true,false,false,false,true,false], [true,false,false,false,false,true], [false,false,false,false,false,false]]
def mk_153 : List (List Bool) := [[true,true,true], [true,true,true], [true,true,true], [true,true,true], [true,true,true], [false,false,false], [false,false,false], [false,false,false]]
def mk_154 : List (List Bool) := [[true,true,true,true], [true,true,true,true], [true,true,true,true], [true,true,true,true], [false,false,false,false], [true,true,true,true], [false,false,false,false]]
def mk_155 : List (List Bool) := [[true], [false]]
def mk_156 : List (List Bool) := [[true], [true]]
def mk_157 : List (List Bool) := [[true], [true], [false]]
def mk_158 : List (List Bool) := [[true,true], [true,false], [false,false], [false,false], [true,false], [false,false], [true,false], [false,false], [true,false], [false,false], [true,false], [false,false], [true,false], [false,false], [true,false], [false,false], [true,false], [false,false], [true,false], [false,false], [true,false], [false,false], [false,false]]
def mk_159 : List (List Bool) := [[true,true], [false,false], [false,false]]
def mk_160 : List (List Bool) := [[true], [false], [false]]
def mk_161 : List (List Bool) := [[true,true], [false,false], [false,false]]
def mk_162 : List (List Bool) := [[true,true], [false,false], [false,false], [false,false]]
def mk_163 : List (List Bool) := [[true,true,true,true], [false,true,true,true], [false,false,true,true], [false,false,false,false], [false,false,false,false], [false,false,false,false], [false,true,true,false], [false,false,true,false], [false,false,false,false], [false,false,false,false], [false,false,false,false], [false,true,true,true], [false,false,true,true], [false,false,false,true], [false,false,false,false], [false,false,false,false], [false,false,false,false], [false,true,false,false], [false,false,false,false], [false,false,false,false]]
def mk_164 : List (List Bool) := [[true,false,true,false,true,false], [false,false,false,false,false,false], [false,false,false,false,false,false]]
def mk_165 : List (List Bool) := [[true,true]]
def mk_166 : List (List Bool) := [[true,true,true]]
def mk_167 : List (List Bool) := [[true,true,true]]
def mk_168 : List (List Bool) := [[true,true,true,false,false], [true,true,true,true,false], [true,true,true,true,true], [true,true,true,true,true], [true,true,true,true,true], [true,true,true,true,true], [true,true,true,true,true], [true,true,true,true,true], [true,true,true,true,false], [false,false,false,false,false]]
def mk_169 : List (List Bool) := [[true], [false]]
def mk_170 : List (List Bool) := [[true,true,true,false], [true,true,true,false], [true,true,true,false], [false,false,false,false], [true,true,true,false], [true,true,true,false], [true,true,true,false], [true,true,true,true], [true,true,true,true], [true,true,false,false]]
def mk_171 : List (List Bool) := [[true,true,true,true,true], [true,true,true,true,true], [true,true,true,true,true], [true,true,true,true,true], [false,false,false,false,false], [true,true,true,true,true], [true,true,true,true,true], [true,true,true,true,true], [true,true,true,true,true], [false,false,false,false,false], [true,true,true,true,false], [false,false,false,false,false], [false,false,false,false,false]]
def mk_172 : List (List Bool) := [[true,true,true,true,true,false,false], [true,true,true,true,true,false,false], [true,true,true,true,true,false,false], [true,true,true,true,true,false,false], [true,true,true,true,true,false,false], [true,true,true,true,true,false,false], [true,true,true,true,true,false,false], [true,true,true,true,true,false,false], [true,true,true,true,true,false,false], [true,true,true,true,true,false,false], [true,true,true,true,true,false,false], [true,true,true,true,true,false,false], [true,true,true,true,true,false,false], [true,true,true,true,true,false,false], [true,true,true,true,true,false,false], [true,true,true,true,true,false,false], [true,true,true,true,true,false,false], [true,true,true,true,true,false,false], [true,true,true,true,true,false,false], [true,true,true,true,true,false,false], [true,true,true,true,true,false,false], [true,true,true,true,true,false,false], [true,true,true,true,true,false,true]]
def mk_173 : List (List Bool) := [[true,true], [false,false]]
def mk_174 : List (List Bool) := [[true,true,true], [true,true,true], [true,true,true], [false,false,false], [true,true,true]]
def mk_175 : List (List Bool) := [[true,true,true], [true,true,true], [true,true,true], [false,false,false], [true,true,true]]
def mk_176 : List (List Bool) := [[true,true], [true,true], [false,false], [false,false]]
def mk_177 : List (List Bool) := [[true,true,true,false,false,false], [true,true,true,true,true,false], [true,true,true,true,true,true], [true,true,true,true,true,true], [true,true,true,false,true,true], [true,true,true,false,true,true], [true,true,true,false,true,true], [true,true,true,false,true,true], [true,true,true,true,true,false], [false,false,false,true,false,false]]
def mk_178 : List (List Bool) := [[true,true,true,false,false,false,false,false], [true,true,true,true,true,false,false,false], [true,true,true,true,true,true,true,false], [true,true,true,true,true,true,true,false], [true,true,true,true,true,false,true,false], [true,true,false,false,true,true,false,false], [false,false,false,false,false,false,false,false], [false,false,false,false,false,false,false,false], [true,false,true,true,true,false,false,false], [false,false,false,false,true,false,false,false], [false,false,false,false,false,false,false,false], [false,false,false,false,false,false,false,false], [true,false,true,true,false,false,false,false], [true,false,true,true,false,false,true,false], [true,false,true,true,false,false,true,false], [true,false,true,true,false,false,true,false], [true,false,true,true,false,false,true,false], [true,false,true,true,false,false,true,false], [true,false,true,true,false,false,true,false], [false,false,false,false,false,false,false,false], [true,true,true,true,true,false,false,false], [true,true,false,false,true,false,false,false], [false,false,false,false,false,false,false,false], [true,false,true,true,false,false,false,false], [true,false,true,true,false,false,true,false], [true,false,true,true,false,false,true,false], [true,false,true,true,false,false,true,false], [true,false,true,true,false,false,true,false], [true,false,true,true,false,false,true,false], [false,false,false,false,false,false,false,false]]
def mk_179 : List (List Bool) := [[true,true,true], [true,true,true], [true,true,true], [false,false,false], [true,true,true], [false,false,false], [false,false,false], [false,false,false]]
def mk_180 : List (List Bool) := [[true,true,true,false,false,false,false], [true,true,false,false,false,false,false], [true,true,false,true,false,false,false], [true,true,false,true,true,true,false], [true,true,false,true,true,true,false], [true,true,false,true,true,true,false], [true,true,false,true,false,true,true], [true,true,false,true,false,true,true], [true,true,false,true,true,false,false], [true,true,false,true,true,false,false], [true,false,false,false,true,false,false], [false,false,false,false,false,false,false], [false,false,false,false,false,false,false]]
def mk_181 : List (List Bool) := [[true,true], [false,false]]
def mk_182 : List (List Bool) := [[true,true,false]]
def mk_183 : List (List Bool) := [[true,true], [true,true], [true,true], [true,true], [false,false]]
def mk_184 : List (List Bool) := [[true,true,true,false,false], [true,true,true,true,true], [true,true,true,false,true], [true,true,true,false,true], [true,true,true,false,true], [false,false,false,true,false]]
def mk_185 : List (List Bool) := [[true,true,true], [true,true,true], [true,true,true], [false,false,false], [false,false,false], [false,false,false]]
def mk_186 : List (List Bool) := [[true,true,true,true,true,true,true,false,false,false,false], [true,true,true,true,true,true,true,false,false,false,false], [true,true,true,true,true,true,true,false,false,false,false], [true,true,true,true,true,true,true,false,false,false,false], [true,true,true,true,true,true,true,false,false,false,false], [true,true,true,true,true,true,true,false,false,false,false], [false,false,false,false,false,false,false,false,false,false,false], [true,true,true,true,true,true,true,false,false,false,false], [true,true,true,true,true,true,true,true,false,false,false], [true,true,true,true,true,true,true,true,true,false,false], [true,true,true,true,true,true,true,true,true,false,false], [true,true,true,true,true,true,true,true,true,false,false], [false,false,false,false,false,false,false,false,false,false,false], [true,true,true,true,true,true,true,true,true,false,false], [false,false,false,false,false,false,false,false,false,false,false], [true,true,true,true,true,true,true,true,false,false,false], [true,true,true,true,true,true,true,true,false,true,false], [true,true,true,true,true,true,true,true,false,true,false], [true,true,true,true,true,true,true,true,false,true,true], [true,true,true,true,true,true,true,true,false,true,true], [true,true,true,true,true,true,true,true,false,true,true], [true,true,false,false,false,true,true,false,false,true,false], [true,true,false,false,false,true,true,false,false,true,true], [true,true,false,false,false,false,false,false,false,false,false]]
def mk_187 : List (List Bool) := [[true,true,true,true,false,false,false,false,false,false,false], [true,true,true,true,true,false,false,false,false,false,false], [true,true,true,true,true,true,false,false,false,false,false], [true,true,true,true,true,true,false,false,false,false,false], [true,true,true,true,true,true,true,false,false,false,false], [true,true,true,true,true,true,true,false,false,false,false], [true,true,true,false,true,true,true,true,false,false,false], [true,true,true,false,true,true,true,true,false,false,false], [true,true,true,false,true,true,true,true,true,true,false], [true,true,true,false,true,true,true,true,true,true,false], [true,true,true,false,true,true,true,true,true,true,false], [true,true,true,false,true,true,true,true,true,true,false], [false,false,false,false,false,false,false,false,false,false,false], [true,true,true,false,true,true,true,false,true,true,false], [true,true,true,false,true,true,true,false,true,true,true], [true,true,true,false,true,true,true,false,true,true,true], [true,true,true,false,true,true,true,false,true,true,true], [true,true,true,false,true,true,true,false,false,true,false], [true,true,false,false,false,false,false,false,false,true,false], [true,true,false,false,false,false,false,false,false,true,false], [true,true,false,false,false,false,false,false,false,true,false], [false,false,false,false,false,false,false,false,false,false,false], [false,false,false,false,false,false,false,false,false,false,false]]
def mk_188 : List (List Bool) := [[true,true,true,false,false], [true,true,true,true,true], [true,true,true,false,true], [true,true,true,false,true], [true,true,true,false,true], [false,false,false,true,false]]
def mk_189 : List (List Bool) := [[true,true,true,false,false,false,false,false,false], [true,true,true,true,false,false,false,false,false], [true,true,true,true,true,false,false,false,false], [true,true,true,true,true,true,true,true,true], [true,true,true,true,true,true,true,true,true], [true,true,true,true,true,true,false,true,false], [true,true,true,true,true,true,true,true,false], [true,true,true,true,true,true,false,true,true], [true,true,true,true,true,true,false,true,true], [true,true,true,true,true,true,false,true,false], [true,true,true,true,true,true,false,true,true], [true,true,true,true,true,true,false,true,true], [true,true,true,true,true,true,false,true,true], [true,false,true,true,false,true,false,true,false]]
def mk_190 : List (List Bool) := [[true,true,true,true,true], [true,true,true,true,true], [true,true,true,true,true], [true,true,true,true,false], [false,false,false,false,false]]
def mk_191 : List (List Bool) := [[true,true,true,false], [true,true,true,false], [true,true,true,false], [true,true,true,true], [true,true,true,true], [false,false,false,false]]
def mk_192 : List (List Bool) := [[true,true,false,false,false,false,false,false], [true,true,false,false,false,false,false,false], [true,true,false,false,false,false,false,false], [true,true,false,false,false,false,false,false], [true,true,false,false,false,false,false,false], [true,true,true,true,false,false,false,false], [true,true,false,true,false,false,false,false], [true,true,false,true,false,false,false,false], [true,true,false,true,false,false,false,false], [true,true,true,false,false,false,false,false], [true,true,false,false,false,false,false,false], [true,true,false,false,false,false,false,false], [true,true,false,false,false,false,false,false], [true,true,false,true,true,false,false,false], [true,true,false,true,true,true,true,true], [true,true,false,true,true,false,false,false], [false,false,false,true,false,false,false,false]]
def mk_193 : List (List Bool) := [[true,true,true], [true,true,true], [true,true,true], [false,false,false], [true,true,true], [false,false,false], [true,true,true]]
def mk_194 : List (List Bool) := [[true,true], [true,true], [true,true], [false,false], [false,false], [false,false]]
def mk_195 : List (List Bool) := [[true,true,true,false,false,false,false,false], [true,true,true,true,true,false,false,false], [true,true,true,true,true,true,false,false], [true,true,true,true,true,true,false,false], [true,true,true,true,true,true,false,false], [true,true,true,true,true,true,false,false], [true,true,true,true,true,true,true,false], [true,true,true,true,true,true,true,false], [true,true,true,true,true,true,true,false], [true,true,true,false,true,true,false,true], [true,true,true,false,true,true,false,false], [true,true,true,false,true,true,false,false], [true,true,true,false,true,true,false,false], [true,true,true,true,true,false,false,false], [false,false,false,true,false,false,false,false]]
def mk_196 : List (List Bool) := [[true,true,true,false,false], [false,false,false,false,false], [true,true,false,true,true], [true,true,false,true,false], [false,false,false,false,false], [false,false,false,false,false], [false,false,false,false,false], [false,false,false,false,false]]
def mk_197 : List (List Bool) := [[true,true,true], [true,true,true], [true,true,true], [false,false,false], [true,true,true], [false,false,false], [false,false,false], [false,false,false]]
def mk_198 : List (List Bool) := [[true,true,false], [true,true,true], [true,true,true], [false,false,false]]
def mk_199 : List (List Bool) := [[true,true], [true,true], [true,true], [false,false], [true,true]]
def mk_200 : List (List Bool) := [[true,true,true,false,false], [true,true,true,false,false], [true,true,true,false,true], [true,true,true,false,false]]
def mk_201 : List (List Bool) := [[true,true], [true,true], [true,true], [true,true], [false,false]]
def mk_202 : List (List Bool) := [[true,true,true,false], [true,true,true,false], [true,true,true,false], [true,true,true,false], [false,false,false,true], [false,false,false,true]]
def mk_203 : List (List Bool) := [[true,true,false], [true,true,false], [true,true,false]]
def mk_204 : List (List Bool) := [[true,true], [false,false], [false,false], [false,false]]
def mk_205 : List (List Bool) := [[true,true], [true,true], [false,false], [false,false], [false,false], [false,false]]
def mk_206 : List (List Bool) := [[true,true,false], [true,false,true], [false,false,false], [false,false,false], [false,false,false], [false,false,false]]
def mk_207 : List (List Bool) := [[true,true,true], [false,false,false], [false,false,false], [false,false,false]]
def mk_208 : List (List Bool) := [[true,true,true], [true,true,true], [true,true,true], [true,false,true], [false,false,false], [true,false,true], [false,false,false]]
def mk_209 : List (List Bool) := [[true,true], [true,true], [false,false]]
def mk_210 : List (List Bool) := [[true,true,true,true,false], [true,true,true,true,true], [true,false,false,true,true], [false,false,false,false,false]]
def mk_211 : List (List Bool) := [[true,true,false,false], [true,true,true,false], [true,true,true,true], [true,true,true,true], [true,true,true,true], [false,false,false,true], [true,true,true,false], [false,false,false,false]]
def mk_212 : List (List Bool) := [[true,true,false]]
def mk_213 : List (List Bool) := [[true,true,false]]
def mk_214 : List (List Bool) := [[true,true], [true,true], [true,true], [false,false], [true,true], [false,false]]
def mk_215 : List (List Bool) := [[true,false,false,false], [true,true,true,false], [true,true,true,true], [true,true,true,true], [true,true,true,false], [true,true,false,false], [true,true,false,false], [true,true,false,false], [true,true,true,true], [true,true,true,true], [true,true,true,true], [true,true,true,true], [true,true,true,true], [true,true,true,true], [true,true,true,true], [true,false,true,false], [false,false,false,false], [false,false,false,false]]
def mk_216 : List (List Bool) := [[true,false,false], [true,false,false], [true,true,false], [true,true,false], [true,false,false], [true,true,false], [true,true,false], [true,false,false], [true,false,false], [true,false,false], [true,false,false], [true,false,false], [false,false,false], [false,false,false]]
def mk_217 : List (List Bool) := [[true,true,false,false,false], [true,true,false,false,false], [true,true,true,true,false], [true,true,true,true,true], [true,true,true,true,true], [true,true,true,true,false], [true,true,true,false,false], [false,false,false,false,false]]
def mk_218 : List (List Bool) := [[true,true,false,false,false], [true,true,true,true,false], [true,true,true,true,true], [true,true,true,true,true], [true,true,true,true,false], [true,true,true,true,true], [true,true,true,true,false]]
def mk_219 : List (List Bool) := [[true,true,false,false,false], [true,true,true,true,false], [true,true,true,true,false], [false,false,true,false,false]]
def mk_220 : List (List Bool) := [[true,true,false,false,false,false,false,false,false,false,false], [true,true,false,false,false,false,false,false,false,false,false], [true,true,true,true,true,false,false,false,false,false,false], [true,true,true,false,true,true,true,false,false,false,false], [true,true,true,false,true,false,true,false,false,false,false], [true,true,true,false,true,false,true,false,false,false,false], [true,true,true,false,true,false,true,false,false,false,false], [true,true,true,false,true,false,true,false,false,false,false], [true,true,true,false,true,true,false,false,false,false,false], [true,true,true,false,true,false,false,false,false,false,false], [true,true,true,false,true,false,false,false,false,false,false], [true,true,true,false,true,false,false,false,false,false,false], [true,true,true,true,false,false,false,false,false,false,false], [true,true,true,true,true,false,true,false,true,false,false], [true,true,true,true,true,false,false,false,false,false,false], [true,true,true,true,true,false,false,false,true,true,false], [true,true,true,true,true,false,false,false,true,true,false], [true,true,true,true,true,false,false,false,true,true,false], [true,true,true,true,false,false,false,false,false,false,false], [true,true,true,false,false,false,false,false,false,false,false], [true,true,true,false,false,false,false,false,false,false,false], [true,true,true,false,false,false,false,false,false,true,false], [true,true,true,false,false,false,false,false,false,true,false], [true,true,false,false,false,false,false,false,false,false,false], [false,false,false,false,false,false,false,false,false,false,false]]
def mk_221 : List (List Bool) := [[true,true,false,false,false], [true,true,false,false,false], [true,true,false,false,false], [true,true,false,false,false], [true,true,true,true,false], [true,true,true,false,false], [true,true,true,false,false], [true,true,true,false,false], [true,true,true,false,false], [true,true,true,true,true], [true,true,true,true,true], [true,true,true,true,false], [true,true,true,true,true], [true,true,true,true,false], [true,true,true,true,true], [true,true,true,true,false], [true,false,true,false,false]]
def mk_222 : List (List Bool) := [[true,true,false,false,false,false], [true,true,true,true,false,false], [true,true,true,true,false,false], [true,true,true,true,true,true], [true,true,false,true,true,true], [true,true,false,true,true,true], [true,true,false,true,true,true], [true,true,true,true,false,false], [false,false,true,false,false,false]]
def mk_223 : List (List Bool) := [[true,true,true,false], [true,true,true,false], [true,true,true,false], [false,false,false,false], [true,true,true,false], [true,true,false,false], [true,true,false,false], [true,true,false,false], [false,false,false,false], [false,false,false,false], [false,false,false,false], [true,true,true,false], [true,true,true,false], [true,true,true,false], [true,true,true,false], [true,true,false,false], [false,false,false,false]]
def mk_224 : List (List Bool) := [[true,true], [true,true], [false,false], [false,false]]
def mk_225 : List (List Bool) := [[true,true,false,false,false], [true,false,true,true,false], [true,false,true,true,false], [true,false,true,true,true], [true,false,true,true,true], [true,false,false,true,true], [true,false,false,true,false], [false,false,false,false,false]]
def mk_226 : List (List Bool) := [[true,true,true], [true,true,true], [true,true,true], [true,true,true], [false,false,false], [false,false,false]]
def mk_227 : List (List Bool) := [[true,true,true,true], [true,true,true,true], [true,true,true,true], [false,false,false,false], [true,true,true,true]]
def mk_228 : List (List Bool) := [[true,false,false], [true,true,false], [true,true,true], [true,true,true], [true,true,false], [false,false,false]]
def mk_229 : List (List Bool) := [[true,false], [true,true], [false,false]]
def mk_230 : List (List Bool) := [[true,false], [true,false], [true,true], [false,false]]
def mk_231 : List (List Bool) := [[true,true,false,false], [true,false,true,false], [true,false,true,true], [true,false,false,true], [false,false,true,false], [true,false,false,false], [true,false,false,false], [true,false,false,false], [true,false,true,false], [true,false,true,true], [true,false,false,true], [false,false,true,false], [true,false,false,false], [true,false,false,false], [true,false,false,false], [true,false,false,false], [true,false,false,false], [false,false,false,false]]
def mk_232 : List (List Bool) := [[true,true], [false,false], [false,false]]
def mk_233 : List (List Bool) := [[true,false,false,false], [true,false,false,false], [true,false,false,false], [true,true,false,false], [true,true,false,false], [true,true,true,true], [true,true,true,true], [true,true,true,true], [true,true,true,true], [true,true,true,true], [true,true,true,true], [true,true,true,true], [true,true,true,true], [true,true,true,true], [true,true,true,true], [true,true,true,true], [true,true,true,true], [true,true,true,true], [true,true,true,true], [true,true,true,true], [true,true,true,true], [true,true,true,true], [true,true,true,true], [true,true,true,true], [true,true,true,true], [true,true,true,true], [true,true,true,true], [true,true,true,true], [true,true,true,true], [true,true,true,true], [true,true,true,true], [true,true,true,true], [true,true,true,true], [true,true,true,true], [true,true,true,true], [true,true,true,true], [true,true,true,true], [true,true,true,true], [true,true,true,true], [true,true,true,true], [true,true,true,true], [true,true,true,true], [true,true,true,true], [true,true,true,true], [true,true,true,true], [true,true,true,true], [true,true,true,true], [true,true,true,true], [true,true,true,true], [true,true,true,true], [true,true,true,true], [true,true,true,true], [true,true,true,true], [true,true,true,true], [true,true,true,true], [true,true,true,true], [true,true,true,true], [true,true,true,true], [true,true,true,true], [true,true,true,true], [true,true,true,true], [true,true,true,true], [true,true,true,true], [true,true,true,true], [true,true,true,true], [true,true,true,true], [true,true,true,true], [true,true,true,true], [true,true,true,true], [true,true,true,true], [true,true,true,true], [true,true,true,true], [true,true,true,true], [true,true,true,true], [true,true,true,true], [true,true,true,true], [true,true,true,true], [true,true,true,true], [true,true,true,true], [true,true,true,true], [true,true,true,true], [true,true,true,true], [true,true,true,true], [true,true,true,true], [true,true,true,true], [true,true,true,true], [true,true,true,true], [true,true,true,true], [true,true,true,true], [false,false,false,false]]
def xmks : List (List (List Bool)) := [mk_0, mk_1, mk_2, mk_3, mk_4, mk_5, mk_6, mk_7, mk_8, mk_9, mk_10, mk_11, mk_12, mk_13, mk_14, mk_15, mk_16, mk_17, mk_18, mk_19, mk_20, mk_21, mk_22, mk_23, mk_24, mk_25, mk_26, mk_27, mk_28, mk_29, mk_30, mk_31, mk_32, mk_33, mk_34, mk_35, mk_36, mk_37, mk_38, mk_39, mk_40, mk_41, mk_42, mk_43, mk_44, mk_45, mk_46, mk_47, mk_48, mk_49, mk_50, mk_51, mk_52, mk_53, mk_54, mk_55, mk_56, mk_57, mk_58, mk_59, mk_60, mk_61, mk_62, mk_63, mk_64, mk_65, mk_66, mk_67, mk_68, mk_69, mk_70, mk_71, mk_72, mk_73, mk_74, mk_75, mk_76, mk_77, mk_78, mk_79, mk_80, mk_81, mk_82, mk_83, mk_84, mk_85, mk_86, mk_87, mk_88, mk_89, mk_90, mk_91, mk_92, mk_93, mk_94, mk_95, mk_96, mk_97, mk_98, mk_99, mk_100, mk_101, mk_102, mk_103, mk_104, mk_105, mk_106, mk_107, mk_108, mk_109, mk_110, mk_111, mk_112, mk_113, mk_114, mk_115, mk_116, mk_117, mk_118, mk_119, mk_120, mk_121, mk_122, mk_123, mk_124, mk_125, mk_126, mk_127, mk_128, mk_129, mk_130, mk_131, mk_132, mk_133, mk_134, mk_135, mk_136, mk_137, mk_138, mk_139, mk_140, mk_141, mk_142, mk_143, mk_144, mk_145, mk_146, mk_147, mk_148, mk_149, mk_150, mk_151, mk_152, mk_153, mk_154, mk_155, mk_156, mk_157, mk_158, mk_159, mk_160, mk_161, mk_162, mk_163, mk_164, mk_165, mk_166, mk_167, mk_168, mk_169, mk_170, mk_171, mk_172, mk_173, mk_174, mk_175, mk_176, mk_177, mk_178, mk_179, mk_180, mk_181, mk_182, mk_183, mk_184, mk_185, mk_186, mk_187, mk_188, mk_189, mk_190, mk_191, mk_192, mk_193, mk_194, mk_195, mk_196, mk_197, mk_198, mk_199, mk_200, mk_201, mk_202, mk_203, mk_204, mk_205, mk_206, mk_207, mk_208, mk_209, mk_210, mk_211, mk_212, mk_213, mk_214, mk_215, mk_216, mk_217, mk_218, mk_219, mk_220, mk_221, mk_222, mk_223, mk_224, mk_225, mk_226, mk_227, mk_228, mk_229, mk_230, mk_231, mk_232, mk_233]
def xmkt (mi b : Nat) : List Bool := ((xmks[mi]?).getD [])[b]?.getD []
end
section
/-! what the interpreter's numbers are on the machine -/
def in32 (x : Int) : Prop := -2147483648 ≤ x ∧ x ≤ 2147483647
def in64 (x : Int) : Prop := -9223372036854775808 ≤ x ∧ x ≤ 9223372036854775807
theorem wr_bmod (x : Int) : wr x = x.bmod 4294967296 := by
  unfold wr Int.bmod
  dsimp only
  split <;> omega
theorem wl_bmod (x : Int) : wl x = x.bmod 18446744073709551616 := by
  unfold wl Int.bmod
  dsimp only
  split <;> omega
theorem wr_in (x : Int) : in32 (wr x) := by unfold in32 wr; omega
theorem wl_in (x : Int) : in64 (wl x) := by unfold in64 wl; omega
theorem wr_id {x : Int} (h : in32 x) : wr x = x := by unfold in32 at h; unfold wr; omega
theorem wl_id {x : Int} (h : in64 x) : wl x = x := by unfold in64 at h; unfold wl; omega
theorem i_ti {x : Int} (h : in32 x) : (Int32.ofInt x).toInt = x := by
  rw [Int32.toInt_ofInt, ← wr_bmod (x := x), wr_id h]
theorem l_ti {x : Int} (h : in64 x) : (Int64.ofInt x).toInt = x := by
  rw [Int64.toInt_ofInt, ← wl_bmod (x := x), wl_id h]
theorem i_of (x : Int32) : Int32.ofInt x.toInt = x := by
  apply Int32.toInt_inj.mp
  exact i_ti ⟨by have := x.le_toInt; omega, by have := x.toInt_lt; omega⟩
theorem ti_in (x : Int32) : in32 x.toInt := ⟨by have := x.le_toInt; omega, by have := x.toInt_lt; omega⟩
theorem i_wr (x : Int) : Int32.ofInt (wr x) = Int32.ofInt x := by
  apply Int32.toInt_inj.mp
  rw [i_ti (wr_in x), Int32.toInt_ofInt, wr_bmod]
theorem l_wl (x : Int) : Int64.ofInt (wl x) = Int64.ofInt x := by
  apply Int64.toInt_inj.mp
  rw [l_ti (wl_in x), Int64.toInt_ofInt, wl_bmod]
theorem i_eq {x y : Int} (hx : in32 x) (hy : in32 y) : Int32.ofInt x = Int32.ofInt y ↔ x = y := by
  constructor
  · intro h
    have := congrArg Int32.toInt h
    rwa [i_ti hx, i_ti hy] at this
  · intro h; rw [h]
theorem i_lt {x y : Int} (hx : in32 x) (hy : in32 y) : Int32.ofInt x < Int32.ofInt y ↔ x < y := by
  rw [Int32.lt_iff_toInt_lt, i_ti hx, i_ti hy]
theorem i_le {x y : Int} (hx : in32 x) (hy : in32 y) : Int32.ofInt x ≤ Int32.ofInt y ↔ x ≤ y := by
  rw [Int32.le_iff_toInt_le, i_ti hx, i_ti hy]
theorem l_eq {x y : Int} (hx : in64 x) (hy : in64 y) : Int64.ofInt x = Int64.ofInt y ↔ x = y := by
  constructor
  · intro h
    have := congrArg Int64.toInt h
    rwa [l_ti hx, l_ti hy] at this
  · intro h; rw [h]
theorem l_lt {x y : Int} (hx : in64 x) (hy : in64 y) : Int64.ofInt x < Int64.ofInt y ↔ x < y := by
  rw [Int64.lt_iff_toInt_lt, l_ti hx, l_ti hy]
theorem i_add (x y : Int) : Int32.ofInt (wr (x + y)) = Int32.ofInt x + Int32.ofInt y := by rw [i_wr, Int32.ofInt_add]
theorem i_sub (x y : Int) : Int32.ofInt (wr (x - y)) = Int32.ofInt x - Int32.ofInt y := by rw [i_wr, Int32.ofInt_sub]
theorem i_mul (x y : Int) : Int32.ofInt (wr (x * y)) = Int32.ofInt x * Int32.ofInt y := by rw [i_wr, Int32.ofInt_mul]
theorem l_add (x y : Int) : Int64.ofInt (wl (x + y)) = Int64.ofInt x + Int64.ofInt y := by rw [l_wl, Int64.ofInt_add]
theorem l_mul (x y : Int) : Int64.ofInt (wl (x * y)) = Int64.ofInt x * Int64.ofInt y := by rw [l_wl, Int64.ofInt_mul]
theorem i_nI (n : Nat) : Int32.ofInt (n : Int) = nI n := rfl
theorem l_lN (n : Nat) : Int64.ofInt (n : Int) = lN n := rfl
theorem i_div {x y : Int} (hx : in32 x) (hy : in32 y) (h0 : 0 ≤ x) (h1 : 0 < y) : Int32.ofInt (x / y) = Int32.ofInt x / Int32.ofInt y := by
  obtain ⟨a, rfl⟩ := Int.eq_ofNat_of_zero_le h0
  obtain ⟨d, rfl⟩ := Int.eq_ofNat_of_zero_le (Int.le_of_lt h1)
  unfold in32 at hx hy
  rw [i_nI, i_nI, pk_div (by omega) (by omega) (by omega)]
  rfl
theorem i_rem {x y : Int} (hx : in32 x) (hy : in32 y) (h0 : 0 ≤ x) (h1 : 0 < y) : Int32.ofInt (x % y) = Int32.ofInt x - Int32.ofInt x / Int32.ofInt y * Int32.ofInt y := by
  obtain ⟨a, rfl⟩ := Int.eq_ofNat_of_zero_le h0
  obtain ⟨d, rfl⟩ := Int.eq_ofNat_of_zero_le (Int.le_of_lt h1)
  unfold in32 at hx hy
  rw [i_nI, i_nI, pk_rem (by omega) (by omega) (by omega)]
  rfl
theorem l_rem {x y : Int} (hx : in64 x) (hy : in64 y) (h0 : 0 ≤ x) (h1 : 0 < y) : Int64.ofInt (x % y) = Int64.ofInt x - Int64.ofInt x / Int64.ofInt y * Int64.ofInt y := by
  obtain ⟨a, rfl⟩ := Int.eq_ofNat_of_zero_le h0
  obtain ⟨d, rfl⟩ := Int.eq_ofNat_of_zero_le (Int.le_of_lt h1)
  unfold in64 at hx hy
  rw [l_lN, l_lN, pk_lRem (by omega) (by omega) (by omega)]
  rfl
theorem div_in {x y : Int} (hx : in32 x) (h0 : 0 ≤ x) (h1 : 0 < y) : in32 (x / y) := by
  unfold in32 at hx ⊢
  have h2 := Int.ediv_nonneg h0 (Int.le_of_lt h1)
  have h3 := Int.ediv_le_self y h0
  omega
theorem rem_in {x y : Int} (hy : in32 y) (h1 : 0 < y) : in32 (x % y) := by
  unfold in32 at hy ⊢
  have h2 := Int.emod_nonneg x (show y ≠ 0 by omega)
  have h3 := Int.emod_lt_of_pos x h1
  omega
theorem rem_in64 {x y : Int} (hy : in64 y) (h1 : 0 < y) : in64 (x % y) := by
  unfold in64 at hy ⊢
  have h2 := Int.emod_nonneg x (show y ≠ 0 by omega)
  have h3 := Int.emod_lt_of_pos x h1
  omega
theorem i_bv (x : Int) : ((Int32.ofInt x).toBitVec.toNat : Int) = x % 4294967296 := by
  rw [show (Int32.ofInt x).toBitVec = BitVec.ofInt 32 x from rfl, BitVec.toNat_ofInt]
  omega
theorem i_ushr8 (x : Int) : ((Int32.ofInt x).toUInt32 >>> ((Int32.ofInt 8).toUInt32 &&& Int32.toUInt32 31)).toInt32 = Int32.ofInt (x % 4294967296 / 256) := by
  have h := pk_ushr (Int32.ofInt x) (Int32.ofInt 8) 8 (by decide)
  have h2 : (Int32.ofInt (x % 4294967296 / 256)).toBitVec.toNat = (Int32.ofInt x).toBitVec.toNat / 2 ^ 8 := by
    have h3 := i_bv x
    have h4 := i_bv (x % 4294967296 / 256)
    omega
  rw [← h2] at h
  exact Int32.toBitVec_inj.mp (BitVec.eq_of_toNat_eq h)
theorem i_and31 (x : Int) : Int32.ofInt x &&& Int32.ofInt 31 = Int32.ofInt (x % 32) := by
  have h := pk_and (Int32.ofInt x) (m := Int32.ofInt 31) 5 (by decide)
  rw [h]
  have h3 := i_bv x
  have h4 : (x % 32) = (((Int32.ofInt x).toBitVec.toNat % 2 ^ 5 : Nat) : Int) := by omega
  rw [h4]
  rfl
theorem i_i2l {x : Int} (h : in32 x) : (Int32.ofInt x).toInt64 = Int64.ofInt x := by
  apply Int64.toInt_inj.mp
  rw [Int32.toInt_toInt64, i_ti h, l_ti]
  unfold in32 at h; unfold in64; omega
theorem i_l2i {x : Int} (h : in64 x) : (Int64.ofInt x).toInt32 = Int32.ofInt (wr x) := by
  apply Int32.toInt_inj.mp
  rw [Int64.toInt_toInt32, l_ti h, i_ti (wr_in x), wr_bmod]
theorem l_cmp {x y : Int} (hx : in64 x) (hy : in64 y) : lg_cmp (Int64.ofInt x) (Int64.ofInt y) = Int32.ofInt (if x = y then 0 else if y < x then 1 else -1) := by
  unfold lg_cmp
  simp only [gt_iff_lt, l_lt hy hx, l_eq hx hy]
  by_cases h1 : x = y
  · subst h1; simp
  · by_cases h2 : y < x
    · simp [h1, h2]
    · simp [h1, h2]
theorem vp_inI {i : Int} {n : Nat} (hi : in32 i) (h0 : 0 ≤ i) (h1 : i < n) : vp_in (Int32.ofInt i) n ∧ (Int32.ofInt i).toNatClampNeg = i.toNat := by
  constructor
  · rw [vp_in_iff, i_ti hi]; omega
  · show (Int32.ofInt i).toInt.toNat = i.toNat
    rw [i_ti hi]
end
section
/-! the interpreter's state on the machine's heap -/
def xv (ad : Nat → Nat) (b : Nat) : xV → Value
  | .inl x => .int (Int32.ofInt x)
  | .inr (.inl x) => .long (Int64.ofInt x)
  | .inr (.inr (.inl r)) => .ref (ad r)
  | .inr (.inr (.inr true)) => .ref b
  | .inr (.inr (.inr false)) => .null
def xfv (ad : Nat → Nat) (f : Nat → Int) (j : Nat) : Option (Option Nat) → Value
  | none => .int (Int32.ofInt (f j))
  | some none => .null
  | some (some r) => .ref (ad r)
def xce (ad : Nat → Nat) (cA : ClassId) (f : Nat → Int) : xK → va_E
  | .inl n => .inl (cA, n, .inl fun j => Int32.ofInt (f j))
  | .inr (ci, ks) => .inr (ci, ks.mapIdx (xfv ad f))
def xws (ad : Nat → Nat) (cA : ClassId) (σ : xS) : va_W := σ.1.mapIdx fun k q => (ad k, xce ad cA (σ.2 k) q)
def xks : xK → Nat | .inl n => n | .inr (_, fs) => fs.length
def xsz (ks : List xK) : Nat := (ks.map xks).sum
def xvo (n : Nat) : xV → Prop
  | .inl x => in32 x
  | .inr (.inl x) => in64 x
  | .inr (.inr (.inl r)) => r < n
  | .inr (.inr (.inr _)) => True
def xso (σ : xS) : Prop := (∀ k j, in32 (σ.2 k j)) ∧ (∀ (k n : Nat), σ.1[k]? = some (Sum.inl n) → n ≤ 100000) ∧ ∀ (k ci : Nat) (fs : List (Option (Option Nat))), σ.1[k]? = some (Sum.inr (ci, fs)) → ∀ r : Nat, some (some r) ∈ fs → r < σ.1.length
theorem xvo_mono {n n' : Nat} (h : n ≤ n') {v : xV} (hv : xvo n v) : xvo n' v := by
  match v, hv with
  | .inl _, hv => exact hv
  | .inr (.inl _), hv => exact hv
  | .inr (.inr (.inl r)), hv => exact Nat.lt_of_lt_of_le hv h
  | .inr (.inr (.inr _)), _ => trivial
theorem xws_at {ad : Nat → Nat} {cA : ClassId} {σ : xS} {k : Nat} {q : xK} (h : σ.1[k]? = some q) : (xws ad cA σ)[k]? = some (ad k, xce ad cA (σ.2 k) q) := by
  unfold xws
  rw [List.getElem?_mapIdx, h]
  rfl
theorem set_same {α : Type} {l : List α} {k : Nat} {q : α} (h : l[k]? = some q) : l.set k q = l := by
  apply List.ext_getElem?
  intro i
  rw [List.getElem?_set]
  split
  · rename_i e
    subst e
    split
    · exact h.symm
    · rename_i hl
      rw [List.getElem?_eq_none (by omega)]
  · rfl
theorem xws_upd {ad : Nat → Nat} {cA : ClassId} {σ : xS} {μ' : xM} {k : Nat} {q q' : xK} (hk : σ.1[k]? = some q) (h2 : ∀ i, i ≠ k → μ' i = σ.2 i) :
    (xws ad cA σ).set k (ad k, xce ad cA (μ' k) q') = xws ad cA (σ.1.set k q', μ') := by
  have hl := (List.getElem?_eq_some_iff.mp hk).1
  unfold xws
  apply List.ext_getElem?
  intro i
  rw [List.getElem?_set, List.getElem?_mapIdx, List.getElem?_mapIdx, List.getElem?_set]
  by_cases e : k = i
  · subst e
    simp [hl]
  · simp only [if_neg e, h2 i (Ne.symm e)]
theorem xws_same {ad : Nat → Nat} {cA : ClassId} {σ : xS} {μ' : xM} {k : Nat} {q : xK} (hk : σ.1[k]? = some q) (h2 : ∀ i, i ≠ k → μ' i = σ.2 i) :
    (xws ad cA σ).set k (ad k, xce ad cA (μ' k) q) = xws ad cA (σ.1, μ') := by
  rw [xws_upd hk h2, set_same hk]
theorem xws_len {ad : Nat → Nat} {cA : ClassId} {σ : xS} : (xws ad cA σ).length = σ.1.length := by unfold xws; simp
/-- a value of valid references does not see addresses that are new -/
theorem xv_ad {ad ad' : Nat → Nat} {b n : Nat} {v : xV} (hv : xvo n v) (h : ∀ k, k < n → ad' k = ad k) : xv ad' b v = xv ad b v := by
  match v, hv with
  | .inl _, _ => rfl
  | .inr (.inl _), _ => rfl
  | .inr (.inr (.inl r)), hv => show Value.ref (ad' r) = Value.ref (ad r); rw [h r hv]
  | .inr (.inr (.inr true)), _ => rfl
  | .inr (.inr (.inr false)), _ => rfl
theorem xv_ads {ad ad' : Nat → Nat} {b n : Nat} {S : List xV} (hS : ∀ v ∈ S, xvo n v) (h : ∀ k, k < n → ad' k = ad k) : S.map (xv ad' b) = S.map (xv ad b) :=
  List.map_congr_left fun v hv => xv_ad (hS v hv) h
/-- a cell more, at a new address -/
theorem xws_push {ad : Nat → Nat} {cA : ClassId} {σ : xS} {q : xK} {a : Nat} (hs : xso σ) (hq : ∀ ci fs, q = .inr (ci, fs) → ∀ r, some (some r) ∈ fs → r < σ.1.length) :
    xws ad cA σ ++ [(a, xce ad cA (fun _ => 0) q)] = xws (fun k => if k = σ.1.length then a else ad k) cA (σ.1 ++ [q], zr2 σ.2 σ.1.length) := by
  have key : ∀ (f : Nat → Int) (w : xK), (∀ ci fs, w = .inr (ci, fs) → ∀ r, some (some r) ∈ fs → r < σ.1.length) → xce ad cA f w = xce (fun k => if k = σ.1.length then a else ad k) cA f w := by
    intro f w hw
    match w, hw with
    | .inl n, _ => rfl
    | .inr (ci, fs), hw =>
      show (Sum.inr (ci, fs.mapIdx (xfv ad f)) : va_E) = Sum.inr (ci, fs.mapIdx _)
      congr 2
      apply List.ext_getElem?
      intro i
      rw [List.getElem?_mapIdx, List.getElem?_mapIdx]
      cases hi : fs[i]? with
      | none => rfl
      | some o =>
        match o with
        | none => rfl
        | some none => rfl
        | some (some r) =>
          have := hw ci fs rfl r (List.mem_of_getElem? hi)
          show some (Value.ref (ad r)) = some (Value.ref (if r = σ.1.length then a else ad r))
          rw [if_neg (by omega)]
  unfold xws
  apply List.ext_getElem?
  intro i
  by_cases hi : i < σ.1.length
  · rw [List.getElem?_append_left (by simpa using hi), List.getElem?_mapIdx, List.getElem?_mapIdx, List.getElem?_append_left hi]
    have hz : zr2 σ.2 σ.1.length i = σ.2 i := by
      funext j
      unfold zr2
      rw [if_neg (by omega)]
    simp only [hz]
    cases hq2 : σ.1[i]? with
    | none => rfl
    | some w =>
      simp only [Option.map_some]
      rw [key _ w (fun ci fs e => hs.2.2 i ci fs (by rw [hq2, e])), if_neg (by omega)]
  · by_cases hi2 : i = σ.1.length
    · subst hi2
      rw [List.getElem?_append_right (by simp), List.getElem?_mapIdx, List.getElem?_append_right (by simp)]
      have hz : zr2 σ.2 σ.1.length σ.1.length = fun _ => 0 := by
        funext j
        unfold zr2
        rw [if_pos rfl]
      simp only [hz]
      simp [key _ q hq]
    · rw [List.getElem?_eq_none (by simp; omega), List.getElem?_mapIdx, List.getElem?_eq_none (by simp; omega)]
      rfl
-- locals
def xlh (ls : Array Slot) (nL : Nat) (ad : Nat → Nat) (b : Nat) (L : List xV) : Prop := ls.size = nL ∧ lv_wf ls ∧ ∀ (i : Nat) (v : xV), L[i]? = some v → v ≠ vN → ls[i]? = some (Slot.val (xv ad b v))
def xlm (ad : Nat → Nat) (b : Nat) (L : List xV) : List (Nat × Value) := (L.zipIdx.filter fun q => decide (q.1 ≠ vN)).map fun q => (q.2, xv ad b q.1)
theorem xlm_mem {ad : Nat → Nat} {b : Nat} {L : List xV} {q : Nat × Value} : q ∈ xlm ad b L ↔ ∃ v, L[q.1]? = some v ∧ v ≠ vN ∧ q.2 = xv ad b v := by
  unfold xlm
  rw [List.mem_map]
  constructor
  · rintro ⟨⟨v, i⟩, h, rfl⟩
    rw [List.mem_filter] at h
    exact ⟨v, List.mem_zipIdx_iff_getElem?.mp h.1, by simpa using h.2, rfl⟩
  · rintro ⟨v, h1, h2, h3⟩
    exact ⟨(v, q.1), List.mem_filter.mpr ⟨List.mem_zipIdx_iff_getElem?.mpr h1, by simpa using h2⟩, by rw [← h3]⟩
theorem xlh.has {ls : Array Slot} {nL : Nat} {ad : Nat → Nat} {b : Nat} {L : List xV} (h : xlh ls nL ad b L) : lv_has ls nL (xlm ad b L) :=
  ⟨h.1, h.2.1, fun q hq => by
    obtain ⟨v, h1, h2, h3⟩ := xlm_mem.mp hq
    rw [h3]
    exact h.2.2 _ _ h1 h2⟩
theorem xv_cat (ad : Nat → Nat) (b : Nat) (v : xV) : (xv ad b v).category = xcat v := by
  match v with
  | .inl _ => rfl
  | .inr (.inl _) => rfl
  | .inr (.inr (.inl _)) => rfl
  | .inr (.inr (.inr true)) => rfl
  | .inr (.inr (.inr false)) => rfl
theorem xset_nil (i : Nat) (v : xV) : xset [] i v = [] := by cases i <;> rfl
theorem xset_get : ∀ (L : List xV) (i : Nat) (v : xV) (j : Nat) (u : xV), (xset L i v)[j]? = some u → u ≠ vN → (j = i ∧ u = v) ∨ (j ≠ i ∧ L[j]? = some u ∧ (j + 1 = i → xcat u = 1)) := by
  intro L
  induction L with
  | nil => intro i v j u h hu; rw [xset_nil] at h; cases h
  | cons w L ih =>
    intro i v j u h hu
    match i with
    | 0 =>
      have h : (v :: L)[j]? = some u := h
      cases j with
      | zero => left; exact ⟨rfl, (Option.some.inj h).symm⟩
      | succ j => right; exact ⟨by omega, h, fun e => by omega⟩
    | n + 1 =>
      have gen : ∀ (h : (w :: xset L n v)[j]? = some u) (hw : n = 0 → xcat w = 1), (j = n + 1 ∧ u = v) ∨ (j ≠ n + 1 ∧ (w :: L)[j]? = some u ∧ (j + 1 = n + 1 → xcat u = 1)) := by
        intro h hw
        cases j with
        | zero =>
          right
          have e : w = u := Option.some.inj h
          exact ⟨by omega, h, fun e2 => by rw [← e]; exact hw (by omega)⟩
        | succ j =>
          rcases ih n v j u h hu with ⟨h1, h2⟩ | ⟨h1, h2, h3⟩
          · left; exact ⟨by omega, h2⟩
          · right; exact ⟨by omega, h2, fun e => h3 (by omega)⟩
      match w, n, h, gen with
      | .inr (.inl x), 0, h, gen =>
        have h : (vN :: xset L 0 v)[j]? = some u := h
        cases j with
        | zero => exact absurd (Option.some.inj h).symm hu
        | succ j =>
          rcases ih 0 v j u h hu with ⟨h1, h2⟩ | ⟨h1, h2, h3⟩
          · left; exact ⟨by omega, h2⟩
          · right; exact ⟨by omega, h2, fun e => by omega⟩
      | .inr (.inl x), n + 1, h, gen => exact gen h (fun e => by omega)
      | .inl x, 0, h, gen => exact gen h (fun _ => rfl)
      | .inl x, n + 1, h, gen => exact gen h (fun _ => rfl)
      | .inr (.inr x), 0, h, gen => exact gen h (fun _ => rfl)
      | .inr (.inr x), n + 1, h, gen => exact gen h (fun _ => rfl)
theorem xlh.set1 {ls' : Array Slot} {nL : Nat} {ad : Nat → Nat} {b i : Nat} {L : List xV} {v : xV} (h : lv_has ls' nL ((i, xv ad b v) :: (xlm ad b L).filter (fun q => !(q.1 == i) && !(q.1 + 1 == i && q.2.category == 2)))) : xlh ls' nL ad b (xset L i v) := by
  refine ⟨h.1, h.2.1, fun j u hj hu => ?_⟩
  rcases xset_get L i v j u hj hu with ⟨e1, e2⟩ | ⟨e1, e2, e3⟩
  · rw [e1, e2]
    exact h.2.2 _ List.mem_cons_self
  · refine h.2.2 (j, xv ad b u) (List.mem_cons_of_mem _ (List.mem_filter.mpr ⟨xlm_mem.mpr ⟨u, e2, hu, rfl⟩, ?_⟩))
    have h4 : j + 1 = i → ¬ xcat u = 2 := fun e => by rw [e3 e]; decide
    simp only [xv_cat, Bool.and_eq_true, Bool.not_eq_true', beq_eq_false_iff_ne, Bool.and_eq_false_iff]
    refine ⟨e1, ?_⟩
    by_cases e : j + 1 = i
    · exact Or.inr (h4 e)
    · exact Or.inl e
theorem xlh.set2 {ls' : Array Slot} {nL : Nat} {ad : Nat → Nat} {b i : Nat} {L : List xV} {v : xV} (h : lv_has ls' nL ((i, xv ad b v) :: (xlm ad b L).filter (fun q => !(q.1 == i) && (!(q.1 == i + 1) && !(q.1 + 1 == i && q.2.category == 2))))) : xlh ls' nL ad b ((xset L i v).set (i + 1) vN) := by
  refine ⟨h.1, h.2.1, fun j u hj hu => ?_⟩
  have hne : j ≠ i + 1 := by
    intro e
    subst e
    rw [List.getElem?_set] at hj
    simp only [if_true] at hj
    split at hj
    · exact hu (Option.some.inj hj).symm
    · cases hj
  rw [List.getElem?_set, if_neg (Ne.symm hne)] at hj
  rcases xset_get L i v j u hj hu with ⟨e1, e2⟩ | ⟨e1, e2, e3⟩
  · rw [e1, e2]
    exact h.2.2 _ List.mem_cons_self
  · refine h.2.2 (j, xv ad b u) (List.mem_cons_of_mem _ (List.mem_filter.mpr ⟨xlm_mem.mpr ⟨u, e2, hu, rfl⟩, ?_⟩))
    have h4 : j + 1 = i → ¬ xcat u = 2 := fun e => by rw [e3 e]; decide
    simp only [xv_cat, Bool.and_eq_true, Bool.not_eq_true', beq_eq_false_iff_ne, Bool.and_eq_false_iff]
    refine ⟨e1, hne, ?_⟩
    by_cases e : j + 1 = i
    · exact Or.inr (h4 e)
    · exact Or.inl e
theorem xset_ok {n : Nat} : ∀ {L : List xV} {i : Nat} {v : xV}, (∀ u ∈ L, xvo n u) → xvo n v → ∀ u ∈ xset L i v, xvo n u := by
  intro L i v hL hv u hu
  obtain ⟨j, hj⟩ := List.getElem?_of_mem hu
  by_cases e : u = vN
  · rw [e]; trivial
  · rcases xset_get L i v j u hj e with ⟨_, e2⟩ | ⟨_, e2, _⟩
    · rw [e2]; exact hv
    · exact hL _ (List.mem_of_getElem? e2)
end
section
/-! the check of every instruction against the machine and the tables' words -/
def xnest : Jvm.Cond → Bool | .fieldLinkNest .. => true | .methodLinkNest .. => true | _ => false
def xgw (w : Jvm.Cond) : Bool := goodWord w || xnest w
/-- the tables' words that stay, whatever the arguments -/
def xTb (U : State) : Prop := ∀ w ∈ lw_tbl, xgw w = true → ∀ a : Array Value, w.before a U = true
def xtl : List Jvm.Cond := lw_tbl.filter xgw
theorem xTb.all {U : State} (h : xTb U) (a : Array Value) : ∀ w ∈ xtl, w.before a U = true := fun w hw => h w (List.mem_filter.mp hw).1 (List.mem_filter.mp hw).2 a
theorem xTb.warm {s U : State} (hW : s.WarmedH U.vm) (h : xTb s) : xTb U := by
  intro w hw hg a
  rcases Bool.or_eq_true_iff.mp hg with h2 | h2
  · exact word_at hW (good_of_word h2) (h w hw hg a)
  · match w, h2 with
    | .fieldLinkNest c i r n d ho, _ => exact va_Nw.use rfl (va_Nw.warmF hW (h _ hw hg #[]))
    | .methodLinkNest c i x ho, _ => exact va_Nw.use rfl (va_Nw.warmM hW (h _ hw hg #[]))
theorem xlay_in {C : String} {T : u_T} {N : Nat} (h : ∀ w ∈ u_ws C T N, w ∈ lw_tbl) : ∀ w ∈ u_ws C T N, w ∈ xtl := by
  intro w hw
  refine List.mem_filter.mpr ⟨h w hw, ?_⟩
  obtain ⟨k, -, rfl⟩ := List.mem_map.mp hw
  unfold u_lay
  split <;> rfl
theorem xlay_0 : ∀ w ∈ u_ws RX0 TX0 5, w ∈ lw_tbl := by decide +kernel
theorem xlay_1 : ∀ w ∈ u_ws RX1 TX1 1, w ∈ lw_tbl := by decide +kernel
theorem xlay_2 : ∀ w ∈ u_ws RX2 TX2 10, w ∈ lw_tbl := by decide +kernel
theorem xlay_3 : ∀ w ∈ u_ws RX3 TX3 7, w ∈ lw_tbl := by decide +kernel
theorem xlay_4 : ∀ w ∈ u_ws RX4 TX4 7, w ∈ lw_tbl := by decide +kernel
theorem xlay_5 : ∀ w ∈ u_ws RX5 TX5 2, w ∈ lw_tbl := by decide +kernel
theorem xlay_6 : ∀ w ∈ u_ws RX6 TX6 3, w ∈ lw_tbl := by decide +kernel
theorem xlay_7 : ∀ w ∈ u_ws RX7 TX7 8, w ∈ lw_tbl := by decide +kernel
theorem xlay_8 : ∀ w ∈ u_ws RX8 TX8 10, w ∈ lw_tbl := by decide +kernel
theorem xlay_9 : ∀ w ∈ u_ws RX9 TX9 3, w ∈ lw_tbl := by decide +kernel
theorem xlay_10 : ∀ w ∈ u_ws RX10 TX10 6, w ∈ lw_tbl := by decide +kernel
def xty (ci : Nat) : Nat → FieldType := match ci with
  | 0 => tyX0
  | 1 => tyX1
  | 2 => tyX2
  | 3 => tyX3
  | 4 => tyX4
  | 5 => tyX5
  | 6 => tyX6
  | 7 => tyX7
  | 8 => tyX8
  | 9 => tyX9
  | _ => tyX10
def xrf : FieldType → Bool | .object _ => true | .array _ => true | _ => false
def xgood (q : vw_C) (ci : Nat) : Prop := (∀ w ∈ u_ws q.1 q.2.1 q.2.2, w ∈ xtl) ∧ (∀ k, k < q.2.2 → parseFieldDescriptor (q.2.1 k).2.2.1 = some (xty ci k)) ∧ (∀ a, a < q.2.2 → ∀ b, b < q.2.2 → a ≠ b → (q.2.1 a).2.1 ≠ (q.2.1 b).2.1) ∧ q.2.2 = (xbk ci).length ∧ ∀ k, k < q.2.2 → (xbk ci)[k]? = some (if xrf (xty ci k) = true then some none else none) ∧ (xrf (xty ci k) = false → xty ci k = .int ∨ xty ci k = .boolean)
theorem xgood_of {ci : Nat} {q : vw_C} (h : vwCl[ci]? = some q) : xgood q ci := by
  match ci, h with
  | 0, h => cases h; exact ⟨xlay_in xlay_0, tyX0_ok, nmX0, by decide +kernel, by decide +kernel⟩
  | 1, h => cases h; exact ⟨xlay_in xlay_1, tyX1_ok, nmX1, by decide +kernel, by decide +kernel⟩
  | 2, h => cases h; exact ⟨xlay_in xlay_2, tyX2_ok, nmX2, by decide +kernel, by decide +kernel⟩
  | 3, h => cases h; exact ⟨xlay_in xlay_3, tyX3_ok, nmX3, by decide +kernel, by decide +kernel⟩
  | 4, h => cases h; exact ⟨xlay_in xlay_4, tyX4_ok, nmX4, by decide +kernel, by decide +kernel⟩
  | 5, h => cases h; exact ⟨xlay_in xlay_5, tyX5_ok, nmX5, by decide +kernel, by decide +kernel⟩
  | 6, h => cases h; exact ⟨xlay_in xlay_6, tyX6_ok, nmX6, by decide +kernel, by decide +kernel⟩
  | 7, h => cases h; exact ⟨xlay_in xlay_7, tyX7_ok, nmX7, by decide +kernel, by decide +kernel⟩
  | 8, h => cases h; exact ⟨xlay_in xlay_8, tyX8_ok, nmX8, by decide +kernel, by decide +kernel⟩
  | 9, h => cases h; exact ⟨xlay_in xlay_9, tyX9_ok, nmX9, by decide +kernel, by decide +kernel⟩
  | 10, h => cases h; exact ⟨xlay_in xlay_10, tyX10_ok, nmX10, by decide +kernel, by decide +kernel⟩
  | n + 11, h => exact absurd h (by simp [vwCl])
def xcnd : Nat → Jvm.ClassFile.Cond | 0 => .eq | 1 => .ne | 2 => .lt | 3 => .ge | 4 => .gt | _ => .le
def xinstr (pb : Nat → Nat) (e : xI) : Instr := match e with
  | (pc, _, o, w, a, c, z, v, ts) => match o with
    | 0 => (match w with | 0 => .iconst v | 1 => .bipush v | 2 => .sipush v | _ => .ldc z)
    | 1 => (match w with | 0 => .iload a | _ => .iload_n (Fin.ofNat 4 a))
    | 2 => (match w with | 0 => .aload a | _ => .aload_n (Fin.ofNat 4 a))
    | 3 => (match w with | 0 => .lload a | _ => .lload_n (Fin.ofNat 4 a))
    | 4 => (match w with | 0 => .istore a | _ => .istore_n (Fin.ofNat 4 a))
    | 5 => (match w with | 0 => .astore a | _ => .astore_n (Fin.ofNat 4 a))
    | 6 => (match w with | 0 => .lstore a | _ => .lstore_n (Fin.ofNat 4 a))
    | 7 => .iinc a v
    | 8 => .iadd | 9 => .isub | 10 => .imul | 11 => .idiv | 12 => .irem | 13 => .iushr | 14 => .iand | 15 => .ixor
    | 16 => .i2l | 17 => .l2i
    | 18 => (match w with | 0 => .lconst (Fin.ofNat 2 v.toNat) | _ => .ldc2_w z)
    | 19 => .lcmp | 20 => .ladd | 21 => .lmul | 22 => .lrem | 23 => .dup | 24 => .dup2 | 25 => .pop
    | 26 => .goto ((pb a : Int) - pc)
    | 28 => .if_icmp (xcnd c) ((pb a : Int) - pc)
    | 29 => .ifCond (xcnd c) ((pb a : Int) - pc)
    | 30 => .tableswitch ((pb c : Int) - pc) v (v + ts.length - 1) (ts.map fun t => (pb t : Int) - pc).toArray
    | 31 => .arraylength | 32 => .iaload | 33 => .iastore
    | 34 => .getfield z | 35 => .getfield z | 36 => .putfield z | 37 => .putfield z | 38 => .new z | 39 => .newarray .int
    | 40 => .invokevirtual z | 41 => .invokevirtual z | 42 => .invokestatic z | 44 => .invokestatic z | 45 => .invokestatic z
    | 43 => .invokespecial z | 48 => .invokespecial z | 46 => .ireturn | 47 => .return_
    | _ => .nop
def xwat (ts : List Nat) (k : Nat) (w : Jvm.Cond) : Bool := decide (lw_tbl[ts.getD k 0]? = some w)
theorem xwat_in {ts : List Nat} {k : Nat} {w : Jvm.Cond} (h : xwat ts k w = true) : w ∈ lw_tbl := List.mem_of_getElem? (of_decide_eq_true h)
def xfck (own : String) (w ci k z : Nat) (ts : List Nat) : Bool := match vwCl[ci]? with
  | some q => decide (k < q.2.2) && decide ((q.2.1 k).1 = q.1) && xwat ts 0 (if w = 0 then .fieldLink own z q.1 (q.2.1 k).2.1 (q.2.1 k).2.2.1 else .fieldLinkNest own z q.1 (q.2.1 k).2.1 (q.2.1 k).2.2.1 "MergeLine")
  | none => false
def xfin (ci k : Nat) : Bool := match vwCl[ci]? with | some q => (q.2.1 k).2.2.2 | none => false
def xfow (ci k : Nat) : String := match vwCl[ci]? with | some q => (q.2.1 k).1 | none => ""
def xmck (own : String) (rf rl nest a z n : Nat) (ts : List Nat) : Bool := match xmt[a]? with
  | some t => decide (a < 233) && decide (t.2.2.2.2.1 + 1 ≤ rf) && decide (8 + (t.2.2.1 + 11) + t.2.2.2.2.2 ≤ rl) && decide ((parseMethodDescriptor t.1.desc).map (fun d => d.parameters.length) = some n) && xwat ts 0 (if nest = 0 then .methodLink own z t.1 else .methodLinkNest own z t.1 "MergeLine")
  | none => false
def xmy (a : Nat) : MethodName := match xmt[a]? with | some t => t.1 | none => ⟨"", "", ""⟩
def xck (own : String) (B : ByteArray) (pb : Nat → Nat) (rf rl nL : Nat) (ret : Option FieldType) (ini : Bool) (e : xI) : Bool := match e with
  | (pc, len, o, w, a, c, z, v, ts) =>
  (decide (o = 27) || decide (decode B pc = .ok (xinstr pb e, len))) && (match o with
    | 0 => decide (-2147483648 ≤ v) && decide (v ≤ 2147483647) && (match w with | 0 => decide (len = 1) | 1 => decide (len = 2) && decide ((Int8.ofInt v).toInt32 = Int32.ofInt v) | 2 => decide (len = 3) && decide ((Int16.ofInt v).toInt32 = Int32.ofInt v) | _ => decide (len = 2) && xwat ts 0 (.constant own z (Int32.ofInt v)))
    | 1 => (match w with | 0 => decide (len = 2) | _ => decide (len = 1) && decide (a < 4))
    | 2 => (match w with | 0 => decide (len = 2) | _ => decide (len = 1) && decide (a < 4))
    | 3 => (match w with | 0 => decide (len = 2) | _ => decide (len = 1) && decide (a < 4))
    | 4 => decide (a < nL) && (match w with | 0 => decide (len = 2) | _ => decide (len = 1) && decide (a < 4))
    | 5 => decide (a < nL) && (match w with | 0 => false | _ => decide (len = 1) && decide (a < 4))
    | 6 => decide (a + 1 < nL) && (match w with | 0 => decide (len = 2) | _ => decide (len = 1) && decide (a < 4))
    | 7 => decide (a < nL) && decide (len = 3)
    | 18 => (match w with | 0 => decide (len = 1) && (decide (v = 0) || decide (v = 1)) | _ => decide (len = 3) && decide (-9223372036854775808 ≤ v) && decide (v ≤ 9223372036854775807) && xwat ts 0 (.constantLong own z (Int64.ofInt v)))
    | 26 => decide (len = 3)
    | 27 => decide (len = 0) && decide (pb a = pc)
    | 28 => decide (len = 3)
    | 29 => decide (len = 3)
    | 30 => true
    | 34 => decide (len = 3) && xfck own w a c z ts
    | 35 => decide (len = 3) && xfck own w a c z ts
    | 36 => decide (len = 3) && xfck own 0 a c z ts && decide (xfin a c = false) && ((decide (w = 0) && decide (xty a c = .int)) || (decide (w = 1) && decide (xty a c = .boolean)))
    | 37 => decide (len = 3) && xfck own 0 a c z ts && decide (xfin a c = true) && xrf (xty a c) && decide (xfow a c = own) && ini
    | 38 => decide (len = 3) && (match vwCl[a]? with | some q => xwat ts 0 (.classLink own z q.1) | none => false)
    | 39 => decide (len = 2)
    | 40 => decide (len = 3) && decide (0 < c) && xmck own rf rl v.toNat a z (c - 1) ts && xwat ts 1 (.instanceMethod (xmy a)) && xwat ts 2 (.selects (xmy a).cls (xmy a) (xmy a)) && (match vwCl[w]? with | some q => decide (q.1 = (xmy a).cls) | none => false)
    | 41 => decide (len = 3) && decide (0 < c) && xmck own rf rl v.toNat a z (c - 1) ts && xwat ts 1 (.instanceMethod (xmy a)) && xwat ts 2 (.selects (xmy a).cls (xmy a) (xmy a)) && (match vwCl[w]? with | some q => decide (q.1 = (xmy a).cls) | none => false)
    | 42 => decide (len = 3) && xmck own rf rl w a z c ts && xwat ts 1 (.static (xmy a))
    | 48 => decide (len = 3) && decide (0 < c) && xmck own rf rl w a z (c - 1) ts && xwat ts 1 (.instanceMethod (xmy a)) && decide ((xmy a).name = "<init>") && (match xmt[a]? with | some t => decide (t.2.2.2.1 = none) | none => false)
    | 43 => decide (len = 3) && xwat ts 0 (.methodLink own z Lib.objectInit) && decide (1 ≤ rf) && decide (20 ≤ rl)
    | 44 => decide (len = 3) && xwat ts 0 (.methodLink own z arraycopyName) && decide (1 ≤ rf) && decide (8 + (nativeFrameWords "java/lang/System" "arraycopy" 5 + 11) ≤ rl)
    | 45 => decide (len = 3) && xwat ts 0 (.methodLink own z Lib.Math.min.name) && decide (1 ≤ rf) && decide (21 ≤ rl)
    | 46 => decide (len = 1) && ((decide (a = 1) && decide (ret = some .boolean)) || (decide (a = 0) && decide (ret = some .int)))
    | 47 => decide (len = 1) && decide (ret = none)
    | _ => decide (len = 1) && decide (o ≤ 33))
/-- a block: one instruction behind the other, each checked -/
def xchain (own : String) (B : ByteArray) (pb : Nat → Nat) (rf rl nL : Nat) (ret : Option FieldType) (ini : Bool) : Nat → List xI → Bool
  | _, [] => true
  | pc, e :: es => decide (e.1 = pc) && xck own B pb rf rl nL ret ini e && xchain own B pb rf rl nL ret ini (pc + e.2.1) es
def xhd (es : List xI) : Nat := match es with | e :: _ => e.1 | [] => 0
def xpb (mi b : Nat) : Nat := xhd (xcd mi b)
def xmchk (mi : Nat) (blks : List (List xI)) (pcs : List Nat) : Bool := match xmt[mi]? with
  | some t => decide (blks.map xhd = pcs) && blks.all fun es => xchain t.1.cls t.2.1 (fun b => pcs.getD b 0) t.2.2.2.2.1 t.2.2.2.2.2 t.2.2.1 t.2.2.2.1 (decide (t.1.name = "<init>")) (xhd es) es
  | none => false
theorem xw_oi1 : Jvm.Cond.instanceMethod Lib.objectInit ∈ lw_tbl := List.mem_of_getElem? (i := 73) (by decide +kernel)
theorem xw_oi2 : Jvm.Cond.code Lib.objectInit ⟨#[0xb1]⟩ 1 none ∈ lw_tbl := List.mem_of_getElem? (i := 74) (by decide +kernel)
theorem xw_ac1 : Jvm.Cond.native arraycopyName ∈ lw_tbl := List.mem_of_getElem? (i := 354) (by decide +kernel)
theorem xw_ac2 : Jvm.Cond.static arraycopyName ∈ lw_tbl := List.mem_of_getElem? (i := 353) (by decide +kernel)
theorem xw_ac3 : Jvm.Cond.initialized "java/lang/System" ∈ lw_tbl := List.mem_of_getElem? (i := 65) (by decide +kernel)
theorem xw_mm1 : Jvm.Cond.static Lib.Math.min.name ∈ lw_tbl := List.mem_of_getElem? (i := 941) (by decide +kernel)
theorem xw_mm2 : Jvm.Cond.initialized "java/lang/Math" ∈ lw_tbl := List.mem_of_getElem? (i := 66) (by decide +kernel)
theorem xw_mm3 : Jvm.Cond.code Lib.Math.min.name Lib.Math.min.code 2 (some .int) ∈ lw_tbl := List.mem_of_getElem? (i := 942) (by decide +kernel)
theorem xw_arr : Jvm.Cond.arrayClass .int ∈ lw_tbl := List.mem_of_getElem? (i := 103) (by decide +kernel)
theorem xw_new_0 : Jvm.Cond.instantiable RX0 5 ∈ lw_tbl ∧ Jvm.Cond.initialized RX0 ∈ lw_tbl := ⟨List.mem_of_getElem? (i := 82) (by decide +kernel), List.mem_of_getElem? (i := 56) (by decide +kernel)⟩
theorem xw_new_1 : Jvm.Cond.instantiable RX1 1 ∈ lw_tbl ∧ Jvm.Cond.initialized RX1 ∈ lw_tbl := ⟨List.mem_of_getElem? (i := 111) (by decide +kernel), List.mem_of_getElem? (i := 58) (by decide +kernel)⟩
theorem xw_new_2 : Jvm.Cond.instantiable RX2 10 ∈ lw_tbl ∧ Jvm.Cond.initialized RX2 ∈ lw_tbl := ⟨List.mem_of_getElem? (i := 105) (by decide +kernel), List.mem_of_getElem? (i := 57) (by decide +kernel)⟩
theorem xw_new_3 : Jvm.Cond.instantiable RX3 7 ∈ lw_tbl ∧ Jvm.Cond.initialized RX3 ∈ lw_tbl := ⟨List.mem_of_getElem? (i := 121) (by decide +kernel), List.mem_of_getElem? (i := 59) (by decide +kernel)⟩
theorem xw_new_4 : Jvm.Cond.instantiable RX4 7 ∈ lw_tbl ∧ Jvm.Cond.initialized RX4 ∈ lw_tbl := ⟨List.mem_of_getElem? (i := 76) (by decide +kernel), List.mem_of_getElem? (i := 55) (by decide +kernel)⟩
theorem xw_new_5 : Jvm.Cond.instantiable RX5 2 ∈ lw_tbl ∧ Jvm.Cond.initialized RX5 ∈ lw_tbl := ⟨List.mem_of_getElem? (i := 182) (by decide +kernel), List.mem_of_getElem? (i := 60) (by decide +kernel)⟩
theorem xw_new_6 : Jvm.Cond.instantiable RX6 3 ∈ lw_tbl ∧ Jvm.Cond.initialized RX6 ∈ lw_tbl := ⟨List.mem_of_getElem? (i := 230) (by decide +kernel), List.mem_of_getElem? (i := 62) (by decide +kernel)⟩
theorem xw_new_7 : Jvm.Cond.instantiable RX7 8 ∈ lw_tbl ∧ Jvm.Cond.initialized RX7 ∈ lw_tbl := ⟨List.mem_of_getElem? (i := 197) (by decide +kernel), List.mem_of_getElem? (i := 61) (by decide +kernel)⟩
theorem xw_new_8 : Jvm.Cond.instantiable RX8 10 ∈ lw_tbl ∧ Jvm.Cond.initialized RX8 ∈ lw_tbl := ⟨List.mem_of_getElem? (i := 248) (by decide +kernel), List.mem_of_getElem? (i := 63) (by decide +kernel)⟩
theorem xw_new_9 : Jvm.Cond.instantiable RX9 3 ∈ lw_tbl ∧ Jvm.Cond.initialized RX9 ∈ lw_tbl := ⟨List.mem_of_getElem? (i := 68) (by decide +kernel), List.mem_of_getElem? (i := 54) (by decide +kernel)⟩
theorem xw_new_10 : Jvm.Cond.instantiable RX10 6 ∈ lw_tbl ∧ Jvm.Cond.initialized RX10 ∈ lw_tbl := ⟨List.mem_of_getElem? (i := 998) (by decide +kernel), List.mem_of_getElem? (i := 64) (by decide +kernel)⟩
theorem xw_new {ci : Nat} {q : vw_C} (h : vwCl[ci]? = some q) : Jvm.Cond.instantiable q.1 q.2.2 ∈ lw_tbl ∧ Jvm.Cond.initialized q.1 ∈ lw_tbl := by
  match ci, h with
  | 0, h => cases h; exact xw_new_0
  | 1, h => cases h; exact xw_new_1
  | 2, h => cases h; exact xw_new_2
  | 3, h => cases h; exact xw_new_3
  | 4, h => cases h; exact xw_new_4
  | 5, h => cases h; exact xw_new_5
  | 6, h => cases h; exact xw_new_6
  | 7, h => cases h; exact xw_new_7
  | 8, h => cases h; exact xw_new_8
  | 9, h => cases h; exact xw_new_9
  | 10, h => cases h; exact xw_new_10
  | n + 11, h => exact absurd h (by simp [vwCl])
def xpl : List (Nat × Nat) := [(85, 56), (405, 56), (989, 56), (342, 56), (346, 56), (338, 56), (979, 56), (421, 56), (425, 56), (434, 56), (441, 56), (429, 56), (358, 56), (351, 56), (691, 56), (817, 56), (931, 56), (114, 58), (413, 58), (377, 58), (755, 58), (939, 58), (108, 57), (334, 57), (456, 57), (461, 57), (616, 57), (524, 57), (589, 57), (872, 57), (822, 57), (876, 57), (854, 57), (482, 57), (670, 57), (549, 57), (553, 57), (620, 57), (473, 57), (478, 57), (492, 57), (501, 57), (511, 57), (528, 57), (674, 57), (682, 57), (536, 57), (704, 57), (573, 57), (946, 57), (124, 59), (496, 59), (486, 59), (505, 59), (515, 59), (532, 59), (540, 59), (708, 59), (577, 59), (580, 59), (951, 59), (79, 55), (628, 55), (863, 55), (602, 55), (666, 55), (657, 55), (641, 55), (653, 55), (728, 55), (686, 55), (700, 55), (723, 55), (732, 55), (760, 55), (768, 55), (773, 55), (813, 55), (838, 55), (846, 55), (927, 55), (185, 60), (649, 60), (593, 60), (661, 60), (678, 60), (607, 60), (956, 60), (233, 62), (636, 62), (798, 62), (803, 62), (807, 62), (901, 62), (910, 62), (919, 62), (966, 62), (200, 61), (645, 61), (696, 61), (741, 61), (736, 61), (850, 61), (764, 61), (984, 61), (779, 61), (783, 61), (787, 61), (868, 61), (714, 61), (718, 61), (745, 61), (751, 61), (830, 61), (826, 61), (834, 61), (842, 61), (961, 61), (251, 63), (369, 63), (993, 63), (569, 63), (565, 63), (373, 63), (385, 63), (393, 63), (792, 63), (409, 63), (416, 63), (437, 63), (445, 63), (935, 63), (71, 54), (327, 54), (362, 54), (381, 54), (389, 54), (397, 54), (452, 54), (465, 54), (520, 54), (545, 54), (557, 54), (561, 54), (585, 54), (598, 54), (612, 54), (624, 54), (632, 54), (859, 54), (881, 54), (886, 54), (891, 54), (897, 54), (906, 54), (915, 54), (923, 54), (971, 54), (975, 54), (330, 54), (448, 54), (469, 54), (401, 54), (365, 54), (1033, 64), (1001, 64), (1038, 64), (1041, 64), (1229, 64), (1029, 64), (1026, 64), (1045, 64), (1049, 64), (1067, 64), (1063, 64), (1072, 64), (1087, 64), (1084, 64), (1080, 64), (1076, 64), (1282, 64), (1112, 64), (1096, 64), (1091, 64), (1117, 64), (1125, 64), (1108, 64), (1138, 64), (1150, 64), (1241, 64), (1245, 64), (1237, 64), (1134, 64), (1142, 64), (1146, 64), (1162, 64), (1158, 64), (1154, 64), (1179, 64), (1166, 64), (1175, 64), (1171, 64), (1183, 64), (1187, 64), (1213, 64), (1209, 64), (1205, 64), (1217, 64), (1233, 64), (1225, 64), (1262, 64), (1201, 64), (1249, 64), (1257, 64), (1221, 64), (1266, 64), (1197, 64), (1270, 64), (1291, 64), (1278, 64), (1274, 64), (1192, 64), (1300, 64), (1295, 64), (1304, 64), (1308, 64), (1312, 64), (1316, 64), (1320, 64), (1324, 64), (1328, 64), (1332, 64), (996, 53)]
set_option maxRecDepth 100000 in
theorem xcw_0 : (xmt_0.map fun t => Jvm.Cond.code t.1 t.2.1 t.2.2.1 t.2.2.2.1) = [85, 405, 989, 342, 346, 338, 979, 421, 425, 434, 441, 429, 358, 351, 691, 817, 931, 114, 413, 377, 755, 939, 108, 334, 456, 461, 616, 524, 589, 872, 822, 876, 854, 482, 670, 549, 553, 620, 473, 478].filterMap (fun i => lw_tbl[i]?) := rfl
set_option maxRecDepth 100000 in
theorem xcw_1 : (xmt_1.map fun t => Jvm.Cond.code t.1 t.2.1 t.2.2.1 t.2.2.2.1) = [492, 501, 511, 528, 674, 682, 536, 704, 573, 946, 124, 496, 486, 505, 515, 532, 540, 708, 577, 580, 951, 79, 628, 863, 602, 666, 657, 641, 653, 728, 686, 700, 723, 732, 760, 768, 773, 813, 838, 846].filterMap (fun i => lw_tbl[i]?) := rfl
set_option maxRecDepth 100000 in
theorem xcw_2 : (xmt_2.map fun t => Jvm.Cond.code t.1 t.2.1 t.2.2.1 t.2.2.2.1) = [927, 185, 649, 593, 661, 678, 607, 956, 233, 636, 798, 803, 807, 901, 910, 919, 966, 200, 645, 696, 741, 736, 850, 764, 984, 779, 783, 787, 868, 714, 718, 745, 751, 830, 826, 834, 842, 961, 251, 369].filterMap (fun i => lw_tbl[i]?) := rfl
set_option maxRecDepth 100000 in
theorem xcw_3 : (xmt_3.map fun t => Jvm.Cond.code t.1 t.2.1 t.2.2.1 t.2.2.2.1) = [993, 569, 565, 373, 385, 393, 792, 409, 416, 437, 445, 935, 71, 327, 362, 381, 389, 397, 452, 465, 520, 545, 557, 561, 585, 598, 612, 624, 632, 859, 881, 886, 891, 897, 906, 915, 923, 971, 975, 330].filterMap (fun i => lw_tbl[i]?) := rfl
set_option maxRecDepth 100000 in
theorem xcw_4 : (xmt_4.map fun t => Jvm.Cond.code t.1 t.2.1 t.2.2.1 t.2.2.2.1) = [448, 469, 401, 365, 1033, 1001, 1038, 1041, 1229, 1029, 1026, 1045, 1049, 1067, 1063, 1072, 1087, 1084, 1080, 1076, 1282, 1112, 1096, 1091, 1117, 1125, 1108, 1138, 1150, 1241, 1245, 1237, 1134, 1142, 1146, 1162, 1158, 1154, 1179, 1166].filterMap (fun i => lw_tbl[i]?) := rfl
set_option maxRecDepth 100000 in
theorem xcw_5 : ((xmt_5.take 33).map fun t => Jvm.Cond.code t.1 t.2.1 t.2.2.1 t.2.2.2.1) = [1175, 1171, 1183, 1187, 1213, 1209, 1205, 1217, 1233, 1225, 1262, 1201, 1249, 1257, 1221, 1266, 1197, 1270, 1291, 1278, 1274, 1192, 1300, 1295, 1304, 1308, 1312, 1316, 1320, 1324, 1328, 1332, 996].filterMap (fun i => lw_tbl[i]?) := rfl
end
section
/-! each operation of the interpreter is what the machine does -/
def xC (p : Program) (s : State) (m : MethodId) (c : Code) (own : String) (cc : ByteArray) (nL : Nat) (D : va_G) (cA : ClassId) (b Ls : Nat) (xs : Nat → Int32) (z : Nat) : Prop :=
  p.tables.exec = Jvm.exec ∧ c.code = cc ∧ c.maxLocals = nL ∧ s.vm.findClass own = some m.cls ∧ xTb s ∧ va_K D vwCl [(cA, .int)] s ∧ va_X b Ls xs s s.heap ∧ b < z ∧ z ≤ s.heap.size ∧ Ls ≤ 100000
/-- from here the machine comes to Q, wherever the cells lie -/
def xGo (p : Program) (l : Launch) (e : Env) (R : Room) (s : State) (m : MethodId) (args : Array Value) (below : List Frame) (meth : Method) (c : Code) (Q : State → Prop) (nL : Nat) (D : va_G) (cA : ClassId) (b z n0 s0 : Nat) (ad0 : Nat → Nat) (pc : Nat) (L S : List xV) (σ : xS) : Prop :=
  ∀ (ad : Nat → Nat) (H : Heap) (locs : List Loc) (ls : Array Slot) (cells slots : Nat), va_P D vwCl (xws ad cA σ) H → va_D (fun q : Nat => z ≤ q) (xws ad cA σ) → va_S (fun q : Nat => z ≤ q) s.heap H locs → xlh ls nL ad b L → xso σ → (∀ v ∈ L, xvo σ.1.length v) → (∀ v ∈ S, xvo σ.1.length v) → (∀ k : Nat, k < n0 → ad k = ad0 k) → n0 ≤ σ.1.length → cells + n0 = σ.1.length → slots + s0 = xsz σ.1 → W p l e R s m args below meth c H locs cells slots Q (F0 m pc ls (S.map (xv ad b)))
theorem xall_cons {n : Nat} {v : xV} {S : List xV} : (∀ u ∈ v :: S, xvo n u) ↔ xvo n v ∧ ∀ u ∈ S, xvo n u := List.forall_mem_cons
theorem pI_of {S : List xV} {q : Int × List xV} (h : pI S = some q) : S = .inl q.1 :: q.2 := by
  unfold pI at h; split at h <;> cases h; rfl
theorem pII_of {S : List xV} {q : Int × Int × List xV} (h : pII S = some q) : S = .inl q.2.1 :: .inl q.1 :: q.2.2 := by
  unfold pII at h; split at h <;> cases h; rfl
theorem pL_of {S : List xV} {q : Int × List xV} (h : pL S = some q) : S = .inr (.inl q.1) :: q.2 := by
  unfold pL at h; split at h <;> cases h; rfl
theorem pLL_of {S : List xV} {q : Int × Int × List xV} (h : pLL S = some q) : S = .inr (.inl q.2.1) :: .inr (.inl q.1) :: q.2.2 := by
  unfold pLL at h; split at h <;> cases h; rfl
theorem pR_of {S : List xV} {q : Nat × List xV} (h : pR S = some q) : S = .inr (.inr (.inl q.1)) :: q.2 := by
  unfold pR at h; split at h <;> cases h; rfl
theorem pIR_of {S : List xV} {q : Int × Nat × List xV} (h : pIR S = some q) : S = .inl q.1 :: .inr (.inr (.inl q.2.1)) :: q.2.2 := by
  unfold pIR at h; split at h <;> cases h; rfl
theorem pRR_of {S : List xV} {q : Nat × Nat × List xV} (h : pRR S = some q) : S = .inr (.inr (.inl q.1)) :: .inr (.inr (.inl q.2.1)) :: q.2.2 := by
  unfold pRR at h; split at h <;> cases h; rfl
theorem pA_of {S : List xV} {q : xV × List xV} (h : pA S = some q) : S = q.1 :: q.2 ∧ ((∃ r, q.1 = .inr (.inr (.inl r))) ∨ q.1 = vS) := by
  unfold pA at h; split at h <;> cases h
  · exact ⟨rfl, Or.inl ⟨_, rfl⟩⟩
  · exact ⟨rfl, Or.inr rfl⟩
theorem pIA_of {S : List xV} {q : Int × xV × List xV} (h : pIA S = some q) : S = .inl q.1 :: q.2.1 :: q.2.2 ∧ ((∃ r, q.2.1 = .inr (.inr (.inl r))) ∨ q.2.1 = vS) := by
  unfold pIA at h; split at h <;> cases h
  · exact ⟨rfl, Or.inl ⟨_, rfl⟩⟩
  · exact ⟨rfl, Or.inr rfl⟩
theorem p1_of {S : List xV} {q : xV × List xV} (h : p1 S = some q) : S = q.1 :: q.2 ∧ xcat q.1 = 1 := by
  unfold p1 at h; split at h <;> cases h <;> exact ⟨rfl, rfl⟩
theorem pI1_of {S : List xV} {q : Int} (h : pI1 S = some q) : S = [.inl q] := by
  unfold pI1 at h; split at h <;> cases h; rfl
theorem p0_of {S : List xV} {q : Unit} (h : p0 S = some q) : S = [] := by
  unfold p0 at h; split at h <;> cases h; rfl
theorem ldI_of {L : List xV} {a : Nat} {x : Int} (h : ldI L a = some x) : L[a]? = some (.inl x) := by
  unfold ldI at h; split at h <;> cases h; assumption
theorem ldL_of {L : List xV} {a : Nat} {x : Int} (h : ldL L a = some x) : L[a]? = some (.inr (.inl x)) := by
  unfold ldL at h; split at h <;> cases h; assumption
theorem ldA_of {L : List xV} {a : Nat} {x : xV} (h : ldA L a = some x) : L[a]? = some x ∧ ((∃ r, x = .inr (.inr (.inl r))) ∨ x = vS) := by
  unfold ldA at h; split at h <;> cases h
  · exact ⟨by assumption, Or.inl ⟨_, rfl⟩⟩
  · exact ⟨by assumption, Or.inr rfl⟩
theorem xln_of {σ : xS} {a n : Nat} (h : xln σ a = some n) : σ.1[a]? = some (Sum.inl n) := by
  unfold xln at h; split at h <;> cases h; assumption
theorem xle_cat {ad : Nat → Nat} {b : Nat} : ∀ (n : Nat) (S : List xV), xle n S = true → ((S.map (xv ad b)).map fun v => v.category).sum ≤ n := by
  intro n S h
  fun_induction xle n S with
  | case1 => simp
  | case2 n x S ih =>
    have := ih h
    simp only [List.map_cons, List.sum_cons, xv_cat, xcat] at this ⊢
    omega
  | case3 n x S ih =>
    have := ih h
    simp only [List.map_cons, List.sum_cons, xv_cat, xcat] at this ⊢
    omega
  | case4 n x S ih =>
    have := ih h
    simp only [List.map_cons, List.sum_cons, xv_cat, xcat] at this ⊢
    omega
  | case5 => cases h
theorem st8_of {n : Nat} {S S' : List xV} (h : st8 n S = some S') : S' = S ∧ xle n S = true := by
  unfold st8 at h; split at h
  · cases h; exact ⟨rfl, by assumption⟩
  · cases h
theorem xset2_ok {n : Nat} {L : List xV} {i : Nat} {v : xV} (hL : ∀ u ∈ L, xvo n u) (hv : xvo n v) : ∀ u ∈ (xset L i v).set (i + 1) vN, xvo n u := by
  intro u hu
  rcases List.mem_or_eq_of_mem_set hu with h | h
  · exact xset_ok hL hv u h
  · rw [h]; trivial
theorem xGo.stk {p : Program} {l : Launch} {e : Env} {R : Room} {s : State} {m : MethodId} {args : Array Value} {below : List Frame} {meth : Method} {c : Code} {Q : State → Prop} {nL : Nat} {D : va_G} {cA : ClassId} {b : Nat} {z n0 s0 : Nat} {ad0 : Nat → Nat} {σ : xS} {L S : List xV} {pc pc' : Nat} {S' : List xV} (hok : (∀ v ∈ L, xvo σ.1.length v) → (∀ v ∈ S, xvo σ.1.length v) → ∀ v ∈ S', xvo σ.1.length v)
    (hrow : ∀ (ad : Nat → Nat) (H : Heap) (locs : List Loc) (ls : Array Slot) (cells slots : Nat), xlh ls nL ad b L → (∀ v ∈ L, xvo σ.1.length v) → (∀ v ∈ S, xvo σ.1.length v) → xso σ → W p l e R s m args below meth c H locs cells slots Q (F0 m pc' ls (S'.map (xv ad b))) → W p l e R s m args below meth c H locs cells slots Q (F0 m pc ls (S.map (xv ad b)))) (k : xGo p l e R s m args below meth c Q nL D cA b z n0 s0 ad0 pc' L S' σ) : xGo p l e R s m args below meth c Q nL D cA b z n0 s0 ad0 pc L S σ :=
  fun ad H locs ls cells slots hP hD hS hl hso hL hSo had hn hce hsl => hrow ad H locs ls cells slots hl hL hSo hso (k ad H locs ls cells slots hP hD hS hl hso hL (hok hL hSo) had hn hce hsl)
theorem go_iadd {p : Program} {l : Launch} {e : Env} {R : Room} {s : State} {m : MethodId} {args : Array Value} {below : List Frame} {meth : Method} {c : Code} {Q : State → Prop} {own : String} {cc : ByteArray} {nL : Nat} {D : va_G} {cA : ClassId} {b Ls : Nat} {xs : Nat → Int32} {z n0 s0 : Nat} {ad0 : Nat → Nat} {σ : xS} {L : List xV} {pc : Nat} {x y : Int} {T : List xV} (C : xC p s m c own cc nL D cA b Ls xs z) (hdg : decode cc pc = .ok (.iadd, 1))  (k : xGo p l e R s m args below meth c Q nL D cA b z n0 s0 ad0 (pc + 1) L (.inl (wr (x + y)) :: T) σ) : xGo p l e R s m args below meth c Q nL D cA b z n0 s0 ad0 pc L (.inl y :: .inl x :: T) σ := by
  obtain ⟨hx, hb, -⟩ := C
  refine xGo.stk (fun _ h => ?_) (fun ad H locs ls cells slots hl hL h hso K => ?_) k
  · simp only [xall_cons] at h ⊢
    exact ⟨wr_in _, h.2.2⟩
  · simp only [xall_cons] at h
    have h1 : in32 y := h.1
    have h2 : in32 x := h.2.1
    refine lv_iadd hx hb hdg  ?_
    have e : Int32.ofInt (wr (x + y)) = Int32.ofInt x + Int32.ofInt y := i_add x y
    rw [← e]
    exact K
theorem go_isub {p : Program} {l : Launch} {e : Env} {R : Room} {s : State} {m : MethodId} {args : Array Value} {below : List Frame} {meth : Method} {c : Code} {Q : State → Prop} {own : String} {cc : ByteArray} {nL : Nat} {D : va_G} {cA : ClassId} {b Ls : Nat} {xs : Nat → Int32} {z n0 s0 : Nat} {ad0 : Nat → Nat} {σ : xS} {L : List xV} {pc : Nat} {x y : Int} {T : List xV} (C : xC p s m c own cc nL D cA b Ls xs z) (hdg : decode cc pc = .ok (.isub, 1))  (k : xGo p l e R s m args below meth c Q nL D cA b z n0 s0 ad0 (pc + 1) L (.inl (wr (x - y)) :: T) σ) : xGo p l e R s m args below meth c Q nL D cA b z n0 s0 ad0 pc L (.inl y :: .inl x :: T) σ := by
  obtain ⟨hx, hb, -⟩ := C
  refine xGo.stk (fun _ h => ?_) (fun ad H locs ls cells slots hl hL h hso K => ?_) k
  · simp only [xall_cons] at h ⊢
    exact ⟨wr_in _, h.2.2⟩
  · simp only [xall_cons] at h
    have h1 : in32 y := h.1
    have h2 : in32 x := h.2.1
    refine lv_isub hx hb hdg  ?_
    have e : Int32.ofInt (wr (x - y)) = Int32.ofInt x - Int32.ofInt y := i_sub x y
    rw [← e]
    exact K
theorem go_imul {p : Program} {l : Launch} {e : Env} {R : Room} {s : State} {m : MethodId} {args : Array Value} {below : List Frame} {meth : Method} {c : Code} {Q : State → Prop} {own : String} {cc : ByteArray} {nL : Nat} {D : va_G} {cA : ClassId} {b Ls : Nat} {xs : Nat → Int32} {z n0 s0 : Nat} {ad0 : Nat → Nat} {σ : xS} {L : List xV} {pc : Nat} {x y : Int} {T : List xV} (C : xC p s m c own cc nL D cA b Ls xs z) (hdg : decode cc pc = .ok (.imul, 1))  (k : xGo p l e R s m args below meth c Q nL D cA b z n0 s0 ad0 (pc + 1) L (.inl (wr (x * y)) :: T) σ) : xGo p l e R s m args below meth c Q nL D cA b z n0 s0 ad0 pc L (.inl y :: .inl x :: T) σ := by
  obtain ⟨hx, hb, -⟩ := C
  refine xGo.stk (fun _ h => ?_) (fun ad H locs ls cells slots hl hL h hso K => ?_) k
  · simp only [xall_cons] at h ⊢
    exact ⟨wr_in _, h.2.2⟩
  · simp only [xall_cons] at h
    have h1 : in32 y := h.1
    have h2 : in32 x := h.2.1
    refine lv_imul hx hb hdg  ?_
    have e : Int32.ofInt (wr (x * y)) = Int32.ofInt x * Int32.ofInt y := i_mul x y
    rw [← e]
    exact K
theorem in32_0 : in32 0 := by unfold in32; omega
theorem go_idiv {p : Program} {l : Launch} {e : Env} {R : Room} {s : State} {m : MethodId} {args : Array Value} {below : List Frame} {meth : Method} {c : Code} {Q : State → Prop} {own : String} {cc : ByteArray} {nL : Nat} {D : va_G} {cA : ClassId} {b Ls : Nat} {xs : Nat → Int32} {z n0 s0 : Nat} {ad0 : Nat → Nat} {σ : xS} {L : List xV} {pc : Nat} {x y : Int} {T : List xV} (C : xC p s m c own cc nL D cA b Ls xs z) (hdg : decode cc pc = .ok (.idiv, 1)) (hc : 0 ≤ x ∧ 0 < y) (k : xGo p l e R s m args below meth c Q nL D cA b z n0 s0 ad0 (pc + 1) L (.inl (x / y) :: T) σ) : xGo p l e R s m args below meth c Q nL D cA b z n0 s0 ad0 pc L (.inl y :: .inl x :: T) σ := by
  obtain ⟨hx, hb, -⟩ := C
  refine xGo.stk (fun _ h => ?_) (fun ad H locs ls cells slots hl hL h hso K => ?_) k
  · simp only [xall_cons] at h ⊢
    exact ⟨div_in h.2.1 hc.1 hc.2, h.2.2⟩
  · simp only [xall_cons] at h
    have h1 : in32 y := h.1
    have h2 : in32 x := h.2.1
    refine lv_idiv hx hb hdg (fun e0 => by rw [show (0 : Int32) = Int32.ofInt 0 from rfl, i_eq h1 in32_0] at e0; omega) ?_
    have e : Int32.ofInt (x / y) = Int32.ofInt x / Int32.ofInt y := i_div h2 h1 hc.1 hc.2
    rw [← e]
    exact K
theorem go_irem {p : Program} {l : Launch} {e : Env} {R : Room} {s : State} {m : MethodId} {args : Array Value} {below : List Frame} {meth : Method} {c : Code} {Q : State → Prop} {own : String} {cc : ByteArray} {nL : Nat} {D : va_G} {cA : ClassId} {b Ls : Nat} {xs : Nat → Int32} {z n0 s0 : Nat} {ad0 : Nat → Nat} {σ : xS} {L : List xV} {pc : Nat} {x y : Int} {T : List xV} (C : xC p s m c own cc nL D cA b Ls xs z) (hdg : decode cc pc = .ok (.irem, 1)) (hc : 0 ≤ x ∧ 0 < y) (k : xGo p l e R s m args below meth c Q nL D cA b z n0 s0 ad0 (pc + 1) L (.inl (x % y) :: T) σ) : xGo p l e R s m args below meth c Q nL D cA b z n0 s0 ad0 pc L (.inl y :: .inl x :: T) σ := by
  obtain ⟨hx, hb, -⟩ := C
  refine xGo.stk (fun _ h => ?_) (fun ad H locs ls cells slots hl hL h hso K => ?_) k
  · simp only [xall_cons] at h ⊢
    exact ⟨rem_in h.1 hc.2, h.2.2⟩
  · simp only [xall_cons] at h
    have h1 : in32 y := h.1
    have h2 : in32 x := h.2.1
    refine lv_irem hx hb hdg (fun e0 => by rw [show (0 : Int32) = Int32.ofInt 0 from rfl, i_eq h1 in32_0] at e0; omega) ?_
    have e : Int32.ofInt (x % y) = Int32.ofInt x - Int32.ofInt x / Int32.ofInt y * Int32.ofInt y := i_rem h2 h1 hc.1 hc.2
    rw [← e]
    exact K
theorem go_ixor {p : Program} {l : Launch} {e : Env} {R : Room} {s : State} {m : MethodId} {args : Array Value} {below : List Frame} {meth : Method} {c : Code} {Q : State → Prop} {own : String} {cc : ByteArray} {nL : Nat} {D : va_G} {cA : ClassId} {b Ls : Nat} {xs : Nat → Int32} {z n0 s0 : Nat} {ad0 : Nat → Nat} {σ : xS} {L : List xV} {pc : Nat} {x y : Int} {T : List xV} (C : xC p s m c own cc nL D cA b Ls xs z) (hdg : decode cc pc = .ok (.ixor, 1))  (k : xGo p l e R s m args below meth c Q nL D cA b z n0 s0 ad0 (pc + 1) L (.inl (xxor x y) :: T) σ) : xGo p l e R s m args below meth c Q nL D cA b z n0 s0 ad0 pc L (.inl y :: .inl x :: T) σ := by
  obtain ⟨hx, hb, -⟩ := C
  refine xGo.stk (fun _ h => ?_) (fun ad H locs ls cells slots hl hL h hso K => ?_) k
  · simp only [xall_cons] at h ⊢
    exact ⟨ti_in _, h.2.2⟩
  · simp only [xall_cons] at h
    have h1 : in32 y := h.1
    have h2 : in32 x := h.2.1
    refine lv_ixor hx hb hdg  ?_
    have e : Int32.ofInt (xxor x y) = Int32.ofInt x ^^^ Int32.ofInt y := i_of _
    rw [← e]
    exact K
theorem go_iushr {p : Program} {l : Launch} {e : Env} {R : Room} {s : State} {m : MethodId} {args : Array Value} {below : List Frame} {meth : Method} {c : Code} {Q : State → Prop} {own : String} {cc : ByteArray} {nL : Nat} {D : va_G} {cA : ClassId} {b Ls : Nat} {xs : Nat → Int32} {z n0 s0 : Nat} {ad0 : Nat → Nat} {σ : xS} {L : List xV} {pc : Nat} {x : Int} {T : List xV} (C : xC p s m c own cc nL D cA b Ls xs z) (hdg : decode cc pc = .ok (.iushr, 1)) (k : xGo p l e R s m args below meth c Q nL D cA b z n0 s0 ad0 (pc + 1) L (.inl (x % 4294967296 / 256) :: T) σ) : xGo p l e R s m args below meth c Q nL D cA b z n0 s0 ad0 pc L (.inl 8 :: .inl x :: T) σ := by
  obtain ⟨hx, hb, -⟩ := C
  refine xGo.stk (fun _ h => ?_) (fun ad H locs ls cells slots hl hL h hso K => ?_) k
  · simp only [xall_cons] at h ⊢
    refine ⟨?_, h.2.2⟩
    show in32 _
    unfold in32
    omega
  · exact lv_iushr hx hb hdg (i_ushr8 x) K
theorem go_iand {p : Program} {l : Launch} {e : Env} {R : Room} {s : State} {m : MethodId} {args : Array Value} {below : List Frame} {meth : Method} {c : Code} {Q : State → Prop} {own : String} {cc : ByteArray} {nL : Nat} {D : va_G} {cA : ClassId} {b Ls : Nat} {xs : Nat → Int32} {z n0 s0 : Nat} {ad0 : Nat → Nat} {σ : xS} {L : List xV} {pc : Nat} {x : Int} {T : List xV} (C : xC p s m c own cc nL D cA b Ls xs z) (hdg : decode cc pc = .ok (.iand, 1)) (k : xGo p l e R s m args below meth c Q nL D cA b z n0 s0 ad0 (pc + 1) L (.inl (x % 32) :: T) σ) : xGo p l e R s m args below meth c Q nL D cA b z n0 s0 ad0 pc L (.inl 31 :: .inl x :: T) σ := by
  obtain ⟨hx, hb, -⟩ := C
  refine xGo.stk (fun _ h => ?_) (fun ad H locs ls cells slots hl hL h hso K => ?_) k
  · simp only [xall_cons] at h ⊢
    refine ⟨?_, h.2.2⟩
    show in32 _
    unfold in32
    omega
  · refine lv_iand hx hb hdg ?_
    rw [i_and31]
    exact K
theorem in64_32 {x : Int} (h : in32 x) : in64 x := by unfold in32 at h; unfold in64; omega
theorem go_i2l {p : Program} {l : Launch} {e : Env} {R : Room} {s : State} {m : MethodId} {args : Array Value} {below : List Frame} {meth : Method} {c : Code} {Q : State → Prop} {own : String} {cc : ByteArray} {nL : Nat} {D : va_G} {cA : ClassId} {b Ls : Nat} {xs : Nat → Int32} {z n0 s0 : Nat} {ad0 : Nat → Nat} {σ : xS} {L : List xV} {pc : Nat} {x : Int} {T : List xV} (C : xC p s m c own cc nL D cA b Ls xs z) (hdg : decode cc pc = .ok (.i2l, 1)) (k : xGo p l e R s m args below meth c Q nL D cA b z n0 s0 ad0 (pc + 1) L (.inr (.inl x) :: T) σ) : xGo p l e R s m args below meth c Q nL D cA b z n0 s0 ad0 pc L (.inl x :: T) σ := by
  obtain ⟨hx, hb, -⟩ := C
  refine xGo.stk (fun _ h => ?_) (fun ad H locs ls cells slots hl hL h hso K => ?_) k
  · simp only [xall_cons] at h ⊢
    exact ⟨in64_32 h.1, h.2⟩
  · simp only [xall_cons] at h
    exact lv_i2l hx hb hdg (i_i2l h.1) K
theorem go_l2i {p : Program} {l : Launch} {e : Env} {R : Room} {s : State} {m : MethodId} {args : Array Value} {below : List Frame} {meth : Method} {c : Code} {Q : State → Prop} {own : String} {cc : ByteArray} {nL : Nat} {D : va_G} {cA : ClassId} {b Ls : Nat} {xs : Nat → Int32} {z n0 s0 : Nat} {ad0 : Nat → Nat} {σ : xS} {L : List xV} {pc : Nat} {x : Int} {T : List xV} (C : xC p s m c own cc nL D cA b Ls xs z) (hdg : decode cc pc = .ok (.l2i, 1)) (k : xGo p l e R s m args below meth c Q nL D cA b z n0 s0 ad0 (pc + 1) L (.inl (wr x) :: T) σ) : xGo p l e R s m args below meth c Q nL D cA b z n0 s0 ad0 pc L (.inr (.inl x) :: T) σ := by
  obtain ⟨hx, hb, -⟩ := C
  refine xGo.stk (fun _ h => ?_) (fun ad H locs ls cells slots hl hL h hso K => ?_) k
  · simp only [xall_cons] at h ⊢
    exact ⟨wr_in _, h.2⟩
  · simp only [xall_cons] at h
    exact lv_l2i hx hb hdg (i_l2i h.1) K
theorem go_ladd {p : Program} {l : Launch} {e : Env} {R : Room} {s : State} {m : MethodId} {args : Array Value} {below : List Frame} {meth : Method} {c : Code} {Q : State → Prop} {own : String} {cc : ByteArray} {nL : Nat} {D : va_G} {cA : ClassId} {b Ls : Nat} {xs : Nat → Int32} {z n0 s0 : Nat} {ad0 : Nat → Nat} {σ : xS} {L : List xV} {pc : Nat} {x y : Int} {T : List xV} (C : xC p s m c own cc nL D cA b Ls xs z) (hdg : decode cc pc = .ok (.ladd, 1))  (k : xGo p l e R s m args below meth c Q nL D cA b z n0 s0 ad0 (pc + 1) L (.inr (.inl (wl (x + y))) :: T) σ) : xGo p l e R s m args below meth c Q nL D cA b z n0 s0 ad0 pc L (.inr (.inl y) :: .inr (.inl x) :: T) σ := by
  obtain ⟨hx, hb, -⟩ := C
  refine xGo.stk (fun _ h => ?_) (fun ad H locs ls cells slots hl hL h hso K => ?_) k
  · simp only [xall_cons] at h ⊢
    exact ⟨wl_in _, h.2.2⟩
  · simp only [xall_cons] at h
    have h1 : in64 y := h.1
    have h2 : in64 x := h.2.1
    refine lv_ladd hx hb hdg  ?_
    have e : Int64.ofInt (wl (x + y)) = Int64.ofInt x + Int64.ofInt y := l_add x y
    rw [← e]
    exact K
theorem go_lmul {p : Program} {l : Launch} {e : Env} {R : Room} {s : State} {m : MethodId} {args : Array Value} {below : List Frame} {meth : Method} {c : Code} {Q : State → Prop} {own : String} {cc : ByteArray} {nL : Nat} {D : va_G} {cA : ClassId} {b Ls : Nat} {xs : Nat → Int32} {z n0 s0 : Nat} {ad0 : Nat → Nat} {σ : xS} {L : List xV} {pc : Nat} {x y : Int} {T : List xV} (C : xC p s m c own cc nL D cA b Ls xs z) (hdg : decode cc pc = .ok (.lmul, 1))  (k : xGo p l e R s m args below meth c Q nL D cA b z n0 s0 ad0 (pc + 1) L (.inr (.inl (wl (x * y))) :: T) σ) : xGo p l e R s m args below meth c Q nL D cA b z n0 s0 ad0 pc L (.inr (.inl y) :: .inr (.inl x) :: T) σ := by
  obtain ⟨hx, hb, -⟩ := C
  refine xGo.stk (fun _ h => ?_) (fun ad H locs ls cells slots hl hL h hso K => ?_) k
  · simp only [xall_cons] at h ⊢
    exact ⟨wl_in _, h.2.2⟩
  · simp only [xall_cons] at h
    have h1 : in64 y := h.1
    have h2 : in64 x := h.2.1
    refine lv_lmul hx hb hdg  ?_
    have e : Int64.ofInt (wl (x * y)) = Int64.ofInt x * Int64.ofInt y := l_mul x y
    rw [← e]
    exact K
theorem in64_0 : in64 0 := by unfold in64; omega
theorem go_lrem {p : Program} {l : Launch} {e : Env} {R : Room} {s : State} {m : MethodId} {args : Array Value} {below : List Frame} {meth : Method} {c : Code} {Q : State → Prop} {own : String} {cc : ByteArray} {nL : Nat} {D : va_G} {cA : ClassId} {b Ls : Nat} {xs : Nat → Int32} {z n0 s0 : Nat} {ad0 : Nat → Nat} {σ : xS} {L : List xV} {pc : Nat} {x y : Int} {T : List xV} (C : xC p s m c own cc nL D cA b Ls xs z) (hdg : decode cc pc = .ok (.lrem, 1)) (hc : 0 ≤ x ∧ 0 < y) (k : xGo p l e R s m args below meth c Q nL D cA b z n0 s0 ad0 (pc + 1) L (.inr (.inl (x % y)) :: T) σ) : xGo p l e R s m args below meth c Q nL D cA b z n0 s0 ad0 pc L (.inr (.inl y) :: .inr (.inl x) :: T) σ := by
  obtain ⟨hx, hb, -⟩ := C
  refine xGo.stk (fun _ h => ?_) (fun ad H locs ls cells slots hl hL h hso K => ?_) k
  · simp only [xall_cons] at h ⊢
    exact ⟨rem_in64 h.1 hc.2, h.2.2⟩
  · simp only [xall_cons] at h
    have h1 : in64 y := h.1
    have h2 : in64 x := h.2.1
    refine lv_lrem hx hb hdg (fun e0 => by rw [show (0 : Int64) = Int64.ofInt 0 from rfl, l_eq h1 in64_0] at e0; omega) ?_
    have e : Int64.ofInt (x % y) = Int64.ofInt x - Int64.ofInt x / Int64.ofInt y * Int64.ofInt y := l_rem h2 h1 hc.1 hc.2
    rw [← e]
    exact K
theorem cmp_in (x y : Int) : in32 (if x = y then 0 else if y < x then 1 else -1) := by unfold in32; split <;> (try split) <;> omega
theorem go_lcmp {p : Program} {l : Launch} {e : Env} {R : Room} {s : State} {m : MethodId} {args : Array Value} {below : List Frame} {meth : Method} {c : Code} {Q : State → Prop} {own : String} {cc : ByteArray} {nL : Nat} {D : va_G} {cA : ClassId} {b Ls : Nat} {xs : Nat → Int32} {z n0 s0 : Nat} {ad0 : Nat → Nat} {σ : xS} {L : List xV} {pc : Nat} {x y : Int} {T : List xV} (C : xC p s m c own cc nL D cA b Ls xs z) (hdg : decode cc pc = .ok (.lcmp, 1))  (k : xGo p l e R s m args below meth c Q nL D cA b z n0 s0 ad0 (pc + 1) L (.inl (if x = y then 0 else if y < x then 1 else -1) :: T) σ) : xGo p l e R s m args below meth c Q nL D cA b z n0 s0 ad0 pc L (.inr (.inl y) :: .inr (.inl x) :: T) σ := by
  obtain ⟨hx, hb, -⟩ := C
  refine xGo.stk (fun _ h => ?_) (fun ad H locs ls cells slots hl hL h hso K => ?_) k
  · simp only [xall_cons] at h ⊢
    exact ⟨cmp_in x y, h.2.2⟩
  · simp only [xall_cons] at h
    have h1 : in64 y := h.1
    have h2 : in64 x := h.2.1
    refine W.lcmp hx hb hdg  ?_
    have e : lg_cmp (Int64.ofInt x) (Int64.ofInt y) = Int32.ofInt (if x = y then 0 else if y < x then 1 else -1) := l_cmp h2 h1
    rw [e]
    exact K
theorem go_dup {p : Program} {l : Launch} {e : Env} {R : Room} {s : State} {m : MethodId} {args : Array Value} {below : List Frame} {meth : Method} {c : Code} {Q : State → Prop} {own : String} {cc : ByteArray} {nL : Nat} {D : va_G} {cA : ClassId} {b Ls : Nat} {xs : Nat → Int32} {z n0 s0 : Nat} {ad0 : Nat → Nat} {σ : xS} {L : List xV} {pc : Nat} {x : xV} {T : List xV} (C : xC p s m c own cc nL D cA b Ls xs z) (hdg : decode cc pc = .ok (.dup, 1)) (hc : xcat x = 1) (k : xGo p l e R s m args below meth c Q nL D cA b z n0 s0 ad0 (pc + 1) L (x :: x :: T) σ) : xGo p l e R s m args below meth c Q nL D cA b z n0 s0 ad0 pc L (x :: T) σ := by
  obtain ⟨hx, hb, -⟩ := C
  refine xGo.stk (fun _ h => ?_) (fun ad H locs ls cells slots hl hL h hso K => ?_) k
  · simp only [xall_cons] at h ⊢
    exact ⟨h.1, h.1, h.2⟩
  · exact lv_dup hx hb hdg (by rw [xv_cat]; exact hc) K
theorem go_dup2 {p : Program} {l : Launch} {e : Env} {R : Room} {s : State} {m : MethodId} {args : Array Value} {below : List Frame} {meth : Method} {c : Code} {Q : State → Prop} {own : String} {cc : ByteArray} {nL : Nat} {D : va_G} {cA : ClassId} {b Ls : Nat} {xs : Nat → Int32} {z n0 s0 : Nat} {ad0 : Nat → Nat} {σ : xS} {L : List xV} {pc : Nat} {x y : xV} {T : List xV} (C : xC p s m c own cc nL D cA b Ls xs z) (hdg : decode cc pc = .ok (.dup2, 1)) (hc : xcat x = 1) (hd : xcat y = 1) (k : xGo p l e R s m args below meth c Q nL D cA b z n0 s0 ad0 (pc + 1) L (x :: y :: x :: y :: T) σ) : xGo p l e R s m args below meth c Q nL D cA b z n0 s0 ad0 pc L (x :: y :: T) σ := by
  obtain ⟨hx, hb, -⟩ := C
  refine xGo.stk (fun _ h => ?_) (fun ad H locs ls cells slots hl hL h hso K => ?_) k
  · simp only [xall_cons] at h ⊢
    exact ⟨h.1, h.2.1, h.1, h.2.1, h.2.2⟩
  · exact lv_dup2_11 hx hb hdg (by rw [xv_cat]; exact hc) (by rw [xv_cat]; exact hd) K
theorem go_pop {p : Program} {l : Launch} {e : Env} {R : Room} {s : State} {m : MethodId} {args : Array Value} {below : List Frame} {meth : Method} {c : Code} {Q : State → Prop} {own : String} {cc : ByteArray} {nL : Nat} {D : va_G} {cA : ClassId} {b Ls : Nat} {xs : Nat → Int32} {z n0 s0 : Nat} {ad0 : Nat → Nat} {σ : xS} {L : List xV} {pc : Nat} {x : xV} {T : List xV} (C : xC p s m c own cc nL D cA b Ls xs z) (hdg : decode cc pc = .ok (.pop, 1)) (hc : xcat x = 1) (k : xGo p l e R s m args below meth c Q nL D cA b z n0 s0 ad0 (pc + 1) L T σ) : xGo p l e R s m args below meth c Q nL D cA b z n0 s0 ad0 pc L (x :: T) σ := by
  obtain ⟨hx, hb, -⟩ := C
  refine xGo.stk (fun _ h => ?_) (fun ad H locs ls cells slots hl hL h hso K => ?_) k
  · simp only [xall_cons] at h ⊢
    exact h.2
  · exact lv_pop hx hb hdg (by rw [xv_cat]; exact hc) K
theorem go_istore_n {p : Program} {l : Launch} {e : Env} {R : Room} {s : State} {m : MethodId} {args : Array Value} {below : List Frame} {meth : Method} {c : Code} {Q : State → Prop} {own : String} {cc : ByteArray} {nL : Nat} {D : va_G} {cA : ClassId} {b Ls : Nat} {xs : Nat → Int32} {z n0 s0 : Nat} {ad0 : Nat → Nat} {σ : xS} {L : List xV} {pc i : Nat} {x : Int} {T : List xV} (C : xC p s m c own cc nL D cA b Ls xs z) (hdg : decode cc pc = .ok (.istore_n (Fin.ofNat 4 i), 1)) (h4 : i < 4) (hi : i < nL) (k : xGo p l e R s m args below meth c Q nL D cA b z n0 s0 ad0 (pc + 1) (xset L i (.inl x)) T σ) : xGo p l e R s m args below meth c Q nL D cA b z n0 s0 ad0 pc L (.inl x :: T) σ := by
  obtain ⟨hx, hb, -⟩ := C
  intro ad H locs ls cells slots hP hD hS hl hso hL hSo had hn hce hsl
  simp only [xall_cons] at hSo
  exact lv_istore_n hx hb hdg (by show i % 4 = i; omega) hl.has hi rfl fun ls' h' => k ad H locs ls' cells slots hP hD hS (xlh.set1 (v := .inl x) h') hso (xset_ok hL hSo.1) hSo.2 had hn hce hsl
theorem go_istore {p : Program} {l : Launch} {e : Env} {R : Room} {s : State} {m : MethodId} {args : Array Value} {below : List Frame} {meth : Method} {c : Code} {Q : State → Prop} {own : String} {cc : ByteArray} {nL : Nat} {D : va_G} {cA : ClassId} {b Ls : Nat} {xs : Nat → Int32} {z n0 s0 : Nat} {ad0 : Nat → Nat} {σ : xS} {L : List xV} {pc i : Nat} {x : Int} {T : List xV} (C : xC p s m c own cc nL D cA b Ls xs z) (hdg : decode cc pc = .ok (.istore i, 2)) (hi : i < nL) (k : xGo p l e R s m args below meth c Q nL D cA b z n0 s0 ad0 (pc + 2) (xset L i (.inl x)) T σ) : xGo p l e R s m args below meth c Q nL D cA b z n0 s0 ad0 pc L (.inl x :: T) σ := by
  obtain ⟨hx, hb, -⟩ := C
  intro ad H locs ls cells slots hP hD hS hl hso hL hSo had hn hce hsl
  simp only [xall_cons] at hSo
  exact lv_istore hx hb hdg hl.has hi rfl fun ls' h' => k ad H locs ls' cells slots hP hD hS (xlh.set1 (v := .inl x) h') hso (xset_ok hL hSo.1) hSo.2 had hn hce hsl
theorem go_lstore_n {p : Program} {l : Launch} {e : Env} {R : Room} {s : State} {m : MethodId} {args : Array Value} {below : List Frame} {meth : Method} {c : Code} {Q : State → Prop} {own : String} {cc : ByteArray} {nL : Nat} {D : va_G} {cA : ClassId} {b Ls : Nat} {xs : Nat → Int32} {z n0 s0 : Nat} {ad0 : Nat → Nat} {σ : xS} {L : List xV} {pc i : Nat} {x : Int} {T : List xV} (C : xC p s m c own cc nL D cA b Ls xs z) (hdg : decode cc pc = .ok (.lstore_n (Fin.ofNat 4 i), 1)) (h4 : i < 4) (hi : i + 1 < nL) (k : xGo p l e R s m args below meth c Q nL D cA b z n0 s0 ad0 (pc + 1) ((xset L i (.inr (.inl x))).set (i + 1) vN) T σ) : xGo p l e R s m args below meth c Q nL D cA b z n0 s0 ad0 pc L (.inr (.inl x) :: T) σ := by
  obtain ⟨hx, hb, -⟩ := C
  intro ad H locs ls cells slots hP hD hS hl hso hL hSo had hn hce hsl
  simp only [xall_cons] at hSo
  exact lv_lstore_n hx hb hdg (by show i % 4 = i; omega) hl.has hi rfl fun ls' h' => k ad H locs ls' cells slots hP hD hS (xlh.set2 (v := .inr (.inl x)) h') hso (xset2_ok hL hSo.1) hSo.2 had hn hce hsl
theorem go_lstore {p : Program} {l : Launch} {e : Env} {R : Room} {s : State} {m : MethodId} {args : Array Value} {below : List Frame} {meth : Method} {c : Code} {Q : State → Prop} {own : String} {cc : ByteArray} {nL : Nat} {D : va_G} {cA : ClassId} {b Ls : Nat} {xs : Nat → Int32} {z n0 s0 : Nat} {ad0 : Nat → Nat} {σ : xS} {L : List xV} {pc i : Nat} {x : Int} {T : List xV} (C : xC p s m c own cc nL D cA b Ls xs z) (hdg : decode cc pc = .ok (.lstore i, 2)) (hi : i + 1 < nL) (k : xGo p l e R s m args below meth c Q nL D cA b z n0 s0 ad0 (pc + 2) ((xset L i (.inr (.inl x))).set (i + 1) vN) T σ) : xGo p l e R s m args below meth c Q nL D cA b z n0 s0 ad0 pc L (.inr (.inl x) :: T) σ := by
  obtain ⟨hx, hb, -⟩ := C
  intro ad H locs ls cells slots hP hD hS hl hso hL hSo had hn hce hsl
  simp only [xall_cons] at hSo
  exact lv_lstore hx hb hdg hl.has hi rfl fun ls' h' => k ad H locs ls' cells slots hP hD hS (xlh.set2 (v := .inr (.inl x)) h') hso (xset2_ok hL hSo.1) hSo.2 had hn hce hsl
theorem go_astore_n {p : Program} {l : Launch} {e : Env} {R : Room} {s : State} {m : MethodId} {args : Array Value} {below : List Frame} {meth : Method} {c : Code} {Q : State → Prop} {own : String} {cc : ByteArray} {nL : Nat} {D : va_G} {cA : ClassId} {b Ls : Nat} {xs : Nat → Int32} {z n0 s0 : Nat} {ad0 : Nat → Nat} {σ : xS} {L : List xV} {pc i : Nat} {x : Nat} {T : List xV} (C : xC p s m c own cc nL D cA b Ls xs z) (hdg : decode cc pc = .ok (.astore_n (Fin.ofNat 4 i), 1)) (h4 : i < 4) (hi : i < nL) (k : xGo p l e R s m args below meth c Q nL D cA b z n0 s0 ad0 (pc + 1) (xset L i (.inr (.inr (.inl x)))) T σ) : xGo p l e R s m args below meth c Q nL D cA b z n0 s0 ad0 pc L (.inr (.inr (.inl x)) :: T) σ := by
  obtain ⟨hx, hb, -⟩ := C
  intro ad H locs ls cells slots hP hD hS hl hso hL hSo had hn hce hsl
  simp only [xall_cons] at hSo
  exact lv_astore_n hx hb hdg (by show i % 4 = i; omega) hl.has hi rfl fun ls' h' => k ad H locs ls' cells slots hP hD hS (xlh.set1 (v := .inr (.inr (.inl x))) h') hso (xset_ok hL hSo.1) hSo.2 had hn hce hsl
theorem go_astore_nS {p : Program} {l : Launch} {e : Env} {R : Room} {s : State} {m : MethodId} {args : Array Value} {below : List Frame} {meth : Method} {c : Code} {Q : State → Prop} {own : String} {cc : ByteArray} {nL : Nat} {D : va_G} {cA : ClassId} {b Ls : Nat} {xs : Nat → Int32} {z n0 s0 : Nat} {ad0 : Nat → Nat} {σ : xS} {L : List xV} {pc i : Nat} {T : List xV} (C : xC p s m c own cc nL D cA b Ls xs z) (hdg : decode cc pc = .ok (.astore_n (Fin.ofNat 4 i), 1)) (h4 : i < 4) (hi : i < nL) (k : xGo p l e R s m args below meth c Q nL D cA b z n0 s0 ad0 (pc + 1) (xset L i vS) T σ) : xGo p l e R s m args below meth c Q nL D cA b z n0 s0 ad0 pc L (vS :: T) σ := by
  obtain ⟨hx, hb, -⟩ := C
  intro ad H locs ls cells slots hP hD hS hl hso hL hSo had hn hce hsl
  simp only [xall_cons] at hSo
  exact lv_astore_n hx hb hdg (by show i % 4 = i; omega) hl.has hi rfl fun ls' h' => k ad H locs ls' cells slots hP hD hS (xlh.set1 (v := vS) h') hso (xset_ok hL hSo.1) hSo.2 had hn hce hsl
theorem go_iinc {p : Program} {l : Launch} {e : Env} {R : Room} {s : State} {m : MethodId} {args : Array Value} {below : List Frame} {meth : Method} {c : Code} {Q : State → Prop} {own : String} {cc : ByteArray} {nL : Nat} {D : va_G} {cA : ClassId} {b Ls : Nat} {xs : Nat → Int32} {z n0 s0 : Nat} {ad0 : Nat → Nat} {σ : xS} {L S : List xV} {pc i : Nat} {x n : Int} (C : xC p s m c own cc nL D cA b Ls xs z) (hdg : decode cc pc = .ok (.iinc i n, 3)) (hi : i < nL) (hx0 : L[i]? = some (.inl x)) (k : xGo p l e R s m args below meth c Q nL D cA b z n0 s0 ad0 (pc + 3) (xset L i (.inl (wr (x + n)))) S σ) : xGo p l e R s m args below meth c Q nL D cA b z n0 s0 ad0 pc L S σ := by
  obtain ⟨hx, hb, -⟩ := C
  intro ad H locs ls cells slots hP hD hS hl hso hL hSo had hn hce hsl
  have hm : (i, Value.int (Int32.ofInt x)) ∈ xlm ad b L := xlm_mem.mpr ⟨_, hx0, by simp, rfl⟩
  obtain ⟨j, hj⟩ := List.getElem?_of_mem hm
  exact lv_iinc (v := Int32.ofInt (wr (x + n))) hx hb hdg hl.has hj (by rw [i_add]) hi rfl fun ls' h' => k ad H locs ls' cells slots hP hD hS (xlh.set1 (v := .inl (wr (x + n))) h') hso (xset_ok hL (wr_in _)) hSo had hn hce hsl
theorem go_iload_n {p : Program} {l : Launch} {e : Env} {R : Room} {s : State} {m : MethodId} {args : Array Value} {below : List Frame} {meth : Method} {c : Code} {Q : State → Prop} {own : String} {cc : ByteArray} {nL : Nat} {D : va_G} {cA : ClassId} {b Ls : Nat} {xs : Nat → Int32} {z n0 s0 : Nat} {ad0 : Nat → Nat} {σ : xS} {L S : List xV} {pc i : Nat} {x : Int} (C : xC p s m c own cc nL D cA b Ls xs z) (hdg : decode cc pc = .ok (.iload_n (Fin.ofNat 4 i), 1)) (h4 : i < 4) (h0 : L[i]? = some (.inl x)) (k : xGo p l e R s m args below meth c Q nL D cA b z n0 s0 ad0 (pc + 1) L (.inl x :: S) σ) : xGo p l e R s m args below meth c Q nL D cA b z n0 s0 ad0 pc L S σ := by
  obtain ⟨hx, hb, -⟩ := C
  refine xGo.stk (fun hL h => ?_) (fun ad H locs ls cells slots hl hL h hso K => ?_) k
  · simp only [xall_cons]
    exact ⟨hL _ (List.mem_of_getElem? h0), h⟩
  · exact lv_iload_n hx hb hdg (by show i % 4 = i; omega) (hl.2.2 _ _ h0 (by simp)) K
theorem go_iload {p : Program} {l : Launch} {e : Env} {R : Room} {s : State} {m : MethodId} {args : Array Value} {below : List Frame} {meth : Method} {c : Code} {Q : State → Prop} {own : String} {cc : ByteArray} {nL : Nat} {D : va_G} {cA : ClassId} {b Ls : Nat} {xs : Nat → Int32} {z n0 s0 : Nat} {ad0 : Nat → Nat} {σ : xS} {L S : List xV} {pc i : Nat} {x : Int} (C : xC p s m c own cc nL D cA b Ls xs z) (hdg : decode cc pc = .ok (.iload i, 2)) (h0 : L[i]? = some (.inl x)) (k : xGo p l e R s m args below meth c Q nL D cA b z n0 s0 ad0 (pc + 2) L (.inl x :: S) σ) : xGo p l e R s m args below meth c Q nL D cA b z n0 s0 ad0 pc L S σ := by
  obtain ⟨hx, hb, -⟩ := C
  refine xGo.stk (fun hL h => ?_) (fun ad H locs ls cells slots hl hL h hso K => ?_) k
  · simp only [xall_cons]
    exact ⟨hL _ (List.mem_of_getElem? h0), h⟩
  · exact lv_iload hx hb hdg  (hl.2.2 _ _ h0 (by simp)) K
theorem go_lload_n {p : Program} {l : Launch} {e : Env} {R : Room} {s : State} {m : MethodId} {args : Array Value} {below : List Frame} {meth : Method} {c : Code} {Q : State → Prop} {own : String} {cc : ByteArray} {nL : Nat} {D : va_G} {cA : ClassId} {b Ls : Nat} {xs : Nat → Int32} {z n0 s0 : Nat} {ad0 : Nat → Nat} {σ : xS} {L S : List xV} {pc i : Nat} {x : Int} (C : xC p s m c own cc nL D cA b Ls xs z) (hdg : decode cc pc = .ok (.lload_n (Fin.ofNat 4 i), 1)) (h4 : i < 4) (h0 : L[i]? = some (.inr (.inl x))) (k : xGo p l e R s m args below meth c Q nL D cA b z n0 s0 ad0 (pc + 1) L (.inr (.inl x) :: S) σ) : xGo p l e R s m args below meth c Q nL D cA b z n0 s0 ad0 pc L S σ := by
  obtain ⟨hx, hb, -⟩ := C
  refine xGo.stk (fun hL h => ?_) (fun ad H locs ls cells slots hl hL h hso K => ?_) k
  · simp only [xall_cons]
    exact ⟨hL _ (List.mem_of_getElem? h0), h⟩
  · exact lv_lload_n hx hb hdg (by show i % 4 = i; omega) (hl.2.2 _ _ h0 (by simp)) K
theorem go_lload {p : Program} {l : Launch} {e : Env} {R : Room} {s : State} {m : MethodId} {args : Array Value} {below : List Frame} {meth : Method} {c : Code} {Q : State → Prop} {own : String} {cc : ByteArray} {nL : Nat} {D : va_G} {cA : ClassId} {b Ls : Nat} {xs : Nat → Int32} {z n0 s0 : Nat} {ad0 : Nat → Nat} {σ : xS} {L S : List xV} {pc i : Nat} {x : Int} (C : xC p s m c own cc nL D cA b Ls xs z) (hdg : decode cc pc = .ok (.lload i, 2)) (h0 : L[i]? = some (.inr (.inl x))) (k : xGo p l e R s m args below meth c Q nL D cA b z n0 s0 ad0 (pc + 2) L (.inr (.inl x) :: S) σ) : xGo p l e R s m args below meth c Q nL D cA b z n0 s0 ad0 pc L S σ := by
  obtain ⟨hx, hb, -⟩ := C
  refine xGo.stk (fun hL h => ?_) (fun ad H locs ls cells slots hl hL h hso K => ?_) k
  · simp only [xall_cons]
    exact ⟨hL _ (List.mem_of_getElem? h0), h⟩
  · exact lv_lload hx hb hdg  (hl.2.2 _ _ h0 (by simp)) K
theorem go_aload_n {p : Program} {l : Launch} {e : Env} {R : Room} {s : State} {m : MethodId} {args : Array Value} {below : List Frame} {meth : Method} {c : Code} {Q : State → Prop} {own : String} {cc : ByteArray} {nL : Nat} {D : va_G} {cA : ClassId} {b Ls : Nat} {xs : Nat → Int32} {z n0 s0 : Nat} {ad0 : Nat → Nat} {σ : xS} {L S : List xV} {pc i : Nat} {x : Nat} (C : xC p s m c own cc nL D cA b Ls xs z) (hdg : decode cc pc = .ok (.aload_n (Fin.ofNat 4 i), 1)) (h4 : i < 4) (h0 : L[i]? = some (.inr (.inr (.inl x)))) (k : xGo p l e R s m args below meth c Q nL D cA b z n0 s0 ad0 (pc + 1) L (.inr (.inr (.inl x)) :: S) σ) : xGo p l e R s m args below meth c Q nL D cA b z n0 s0 ad0 pc L S σ := by
  obtain ⟨hx, hb, -⟩ := C
  refine xGo.stk (fun hL h => ?_) (fun ad H locs ls cells slots hl hL h hso K => ?_) k
  · simp only [xall_cons]
    exact ⟨hL _ (List.mem_of_getElem? h0), h⟩
  · exact lv_aload_n hx hb hdg (by show i % 4 = i; omega) (hl.2.2 _ _ h0 (by simp)) K
theorem go_aload_nS {p : Program} {l : Launch} {e : Env} {R : Room} {s : State} {m : MethodId} {args : Array Value} {below : List Frame} {meth : Method} {c : Code} {Q : State → Prop} {own : String} {cc : ByteArray} {nL : Nat} {D : va_G} {cA : ClassId} {b Ls : Nat} {xs : Nat → Int32} {z n0 s0 : Nat} {ad0 : Nat → Nat} {σ : xS} {L S : List xV} {pc i : Nat} (C : xC p s m c own cc nL D cA b Ls xs z) (hdg : decode cc pc = .ok (.aload_n (Fin.ofNat 4 i), 1)) (h4 : i < 4) (h0 : L[i]? = some vS) (k : xGo p l e R s m args below meth c Q nL D cA b z n0 s0 ad0 (pc + 1) L (vS :: S) σ) : xGo p l e R s m args below meth c Q nL D cA b z n0 s0 ad0 pc L S σ := by
  obtain ⟨hx, hb, -⟩ := C
  refine xGo.stk (fun hL h => ?_) (fun ad H locs ls cells slots hl hL h hso K => ?_) k
  · simp only [xall_cons]
    exact ⟨hL _ (List.mem_of_getElem? h0), h⟩
  · exact lv_aload_n hx hb hdg (by show i % 4 = i; omega) (hl.2.2 _ _ h0 (by simp)) K
theorem go_aload {p : Program} {l : Launch} {e : Env} {R : Room} {s : State} {m : MethodId} {args : Array Value} {below : List Frame} {meth : Method} {c : Code} {Q : State → Prop} {own : String} {cc : ByteArray} {nL : Nat} {D : va_G} {cA : ClassId} {b Ls : Nat} {xs : Nat → Int32} {z n0 s0 : Nat} {ad0 : Nat → Nat} {σ : xS} {L S : List xV} {pc i : Nat} {x : Nat} (C : xC p s m c own cc nL D cA b Ls xs z) (hdg : decode cc pc = .ok (.aload i, 2)) (h0 : L[i]? = some (.inr (.inr (.inl x)))) (k : xGo p l e R s m args below meth c Q nL D cA b z n0 s0 ad0 (pc + 2) L (.inr (.inr (.inl x)) :: S) σ) : xGo p l e R s m args below meth c Q nL D cA b z n0 s0 ad0 pc L S σ := by
  obtain ⟨hx, hb, -⟩ := C
  refine xGo.stk (fun hL h => ?_) (fun ad H locs ls cells slots hl hL h hso K => ?_) k
  · simp only [xall_cons]
    exact ⟨hL _ (List.mem_of_getElem? h0), h⟩
  · exact lv_aload hx hb hdg  (hl.2.2 _ _ h0 (by simp)) K
theorem go_aloadS {p : Program} {l : Launch} {e : Env} {R : Room} {s : State} {m : MethodId} {args : Array Value} {below : List Frame} {meth : Method} {c : Code} {Q : State → Prop} {own : String} {cc : ByteArray} {nL : Nat} {D : va_G} {cA : ClassId} {b Ls : Nat} {xs : Nat → Int32} {z n0 s0 : Nat} {ad0 : Nat → Nat} {σ : xS} {L S : List xV} {pc i : Nat} (C : xC p s m c own cc nL D cA b Ls xs z) (hdg : decode cc pc = .ok (.aload i, 2)) (h0 : L[i]? = some vS) (k : xGo p l e R s m args below meth c Q nL D cA b z n0 s0 ad0 (pc + 2) L (vS :: S) σ) : xGo p l e R s m args below meth c Q nL D cA b z n0 s0 ad0 pc L S σ := by
  obtain ⟨hx, hb, -⟩ := C
  refine xGo.stk (fun hL h => ?_) (fun ad H locs ls cells slots hl hL h hso K => ?_) k
  · simp only [xall_cons]
    exact ⟨hL _ (List.mem_of_getElem? h0), h⟩
  · exact lv_aload hx hb hdg  (hl.2.2 _ _ h0 (by simp)) K
theorem go_push {p : Program} {l : Launch} {e : Env} {R : Room} {s : State} {m : MethodId} {args : Array Value} {below : List Frame} {meth : Method} {c : Code} {Q : State → Prop} {nL : Nat} {D : va_G} {cA : ClassId} {b : Nat} {z n0 s0 : Nat} {ad0 : Nat → Nat} {σ : xS} {L S : List xV} {pc pc' : Nat} {v : Int} (hv : in32 v) (hrow : ∀ (H : Heap) (locs : List Loc) (ls : Array Slot) (cells slots : Nat) (rest : List Value), W p l e R s m args below meth c H locs cells slots Q (F0 m pc' ls (.int (Int32.ofInt v) :: rest)) → W p l e R s m args below meth c H locs cells slots Q (F0 m pc ls rest)) (k : xGo p l e R s m args below meth c Q nL D cA b z n0 s0 ad0 pc' L (.inl v :: S) σ) : xGo p l e R s m args below meth c Q nL D cA b z n0 s0 ad0 pc L S σ := by
  refine xGo.stk (fun hL h => ?_) (fun ad H locs ls cells slots hl hL h hso K => ?_) k
  · simp only [xall_cons]
    exact ⟨hv, h⟩
  · exact hrow _ _ _ _ _ _ K
theorem go_pushL {p : Program} {l : Launch} {e : Env} {R : Room} {s : State} {m : MethodId} {args : Array Value} {below : List Frame} {meth : Method} {c : Code} {Q : State → Prop} {nL : Nat} {D : va_G} {cA : ClassId} {b : Nat} {z n0 s0 : Nat} {ad0 : Nat → Nat} {σ : xS} {L S : List xV} {pc pc' : Nat} {v : Int} (hv : in64 v) (hrow : ∀ (H : Heap) (locs : List Loc) (ls : Array Slot) (cells slots : Nat) (rest : List Value), W p l e R s m args below meth c H locs cells slots Q (F0 m pc' ls (.long (Int64.ofInt v) :: rest)) → W p l e R s m args below meth c H locs cells slots Q (F0 m pc ls rest)) (k : xGo p l e R s m args below meth c Q nL D cA b z n0 s0 ad0 pc' L (.inr (.inl v) :: S) σ) : xGo p l e R s m args below meth c Q nL D cA b z n0 s0 ad0 pc L S σ := by
  refine xGo.stk (fun hL h => ?_) (fun ad H locs ls cells slots hl hL h hso K => ?_) k
  · simp only [xall_cons]
    exact ⟨hv, h⟩
  · exact hrow _ _ _ _ _ _ K
end
section
/-! operations on the store -/
theorem xso_up {σ : xS} {k i : Nat} {v : Int} (h : xso σ) (hv : in32 v) : xso (σ.1, up2 σ.2 k i v) := by
  refine ⟨fun k' j => ?_, h.2⟩
  show in32 (up2 σ.2 k i v k' j)
  unfold up2
  split
  · exact hv
  · exact h.1 _ _
theorem up_off {μ : xM} {k i : Nat} {v : Int} : ∀ k', k' ≠ k → up2 μ k i v k' = μ k' := by
  intro k' h
  funext j
  unfold up2
  rw [if_neg (fun e => h e.1)]
theorem go_alen {p : Program} {l : Launch} {e : Env} {R : Room} {s : State} {m : MethodId} {args : Array Value} {below : List Frame} {meth : Method} {c : Code} {Q : State → Prop} {own : String} {cc : ByteArray} {nL : Nat} {D : va_G} {cA : ClassId} {b Ls : Nat} {xs : Nat → Int32} {z n0 s0 : Nat} {ad0 : Nat → Nat} {σ : xS} {L : List xV} {pc r n : Nat} {T : List xV} (C : xC p s m c own cc nL D cA b Ls xs z) (hdg : decode cc pc = .ok (.arraylength, 1)) (h0 : σ.1[r]? = some (Sum.inl n)) (k : xGo p l e R s m args below meth c Q nL D cA b z n0 s0 ad0 (pc + 1) L (.inl (n : Int) :: T) σ) : xGo p l e R s m args below meth c Q nL D cA b z n0 s0 ad0 pc L (.inr (.inr (.inl r)) :: T) σ := by
  obtain ⟨hx, hb, -, -, -, hK, -⟩ := C
  intro ad H locs ls cells slots hP hD hS hl hso hL hSo had hn hce hsl
  simp only [xall_cons] at hSo
  have hN : n ≤ 100000 := hso.2.1 _ _ h0
  refine va_alen hx hb hK hP r 0 (xws_at h0) rfl (v := Int32.ofInt (n : Int)) rfl hdg ?_
  refine k ad H locs ls cells slots hP hD hS hl hso hL ?_ had hn hce hsl
  simp only [xall_cons]
  refine ⟨?_, hSo.2⟩
  show in32 _
  unfold in32
  omega
theorem go_slen {p : Program} {l : Launch} {e : Env} {R : Room} {s : State} {m : MethodId} {args : Array Value} {below : List Frame} {meth : Method} {c : Code} {Q : State → Prop} {own : String} {cc : ByteArray} {nL : Nat} {D : va_G} {cA : ClassId} {b Ls : Nat} {xs : Nat → Int32} {z n0 s0 : Nat} {ad0 : Nat → Nat} {σ : xS} {L : List xV} {pc : Nat} {T : List xV} (C : xC p s m c own cc nL D cA b Ls xs z) (hdg : decode cc pc = .ok (.arraylength, 1)) (k : xGo p l e R s m args below meth c Q nL D cA b z n0 s0 ad0 (pc + 1) L (.inl (Ls : Int) :: T) σ) : xGo p l e R s m args below meth c Q nL D cA b z n0 s0 ad0 pc L (vS :: T) σ := by
  obtain ⟨hx, hb, -, -, -, hK, hX, hbz, hzs, hLs⟩ := C
  intro ad H locs ls cells slots hP hD hS hl hso hL hSo had hn hce hsl
  simp only [xall_cons] at hSo
  refine va_slen (A := fun q : Nat => z ≤ q) hx hb hX (by omega) (by omega) hS hdg ?_
  refine k ad H locs ls cells slots hP hD hS hl hso hL ?_ had hn hce hsl
  simp only [xall_cons]
  refine ⟨?_, hSo.2⟩
  show in32 _
  unfold in32
  omega
theorem go_iald {p : Program} {l : Launch} {e : Env} {R : Room} {s : State} {m : MethodId} {args : Array Value} {below : List Frame} {meth : Method} {c : Code} {Q : State → Prop} {own : String} {cc : ByteArray} {nL : Nat} {D : va_G} {cA : ClassId} {b Ls : Nat} {xs : Nat → Int32} {z n0 s0 : Nat} {ad0 : Nat → Nat} {σ : xS} {L : List xV} {pc r n : Nat} {i : Int} {T : List xV} (C : xC p s m c own cc nL D cA b Ls xs z) (hdg : decode cc pc = .ok (.iaload, 1)) (h0 : σ.1[r]? = some (Sum.inl n)) (hi : 0 ≤ i ∧ i < n) (k : xGo p l e R s m args below meth c Q nL D cA b z n0 s0 ad0 (pc + 1) L (.inl (σ.2 r i.toNat) :: T) σ) : xGo p l e R s m args below meth c Q nL D cA b z n0 s0 ad0 pc L (.inl i :: .inr (.inr (.inl r)) :: T) σ := by
  obtain ⟨hx, hb, -, -, -, hK, -⟩ := C
  intro ad H locs ls cells slots hP hD hS hl hso hL hSo had hn hce hsl
  simp only [xall_cons] at hSo
  obtain ⟨q1, q2⟩ := vp_inI hSo.1 hi.1 hi.2
  refine va_iald hx hb hK hP r 0 (xws_at h0) rfl q1 hdg ?_
  rw [q2]
  refine k ad H locs ls cells slots hP hD hS hl hso hL ?_ had hn hce hsl
  simp only [xall_cons]
  exact ⟨hso.1 _ _, hSo.2.2⟩
theorem go_sald {p : Program} {l : Launch} {e : Env} {R : Room} {s : State} {m : MethodId} {args : Array Value} {below : List Frame} {meth : Method} {c : Code} {Q : State → Prop} {own : String} {cc : ByteArray} {nL : Nat} {D : va_G} {cA : ClassId} {b Ls : Nat} {xs : Nat → Int32} {z n0 s0 : Nat} {ad0 : Nat → Nat} {σ : xS} {L : List xV} {pc : Nat} {i : Int} {T : List xV} (C : xC p s m c own cc nL D cA b Ls xs z) (hdg : decode cc pc = .ok (.iaload, 1)) (hi : 0 ≤ i ∧ i < Ls) (k : xGo p l e R s m args below meth c Q nL D cA b z n0 s0 ad0 (pc + 1) L (.inl (xs i.toNat).toInt :: T) σ) : xGo p l e R s m args below meth c Q nL D cA b z n0 s0 ad0 pc L (.inl i :: vS :: T) σ := by
  obtain ⟨hx, hb, -, -, -, hK, hX, hbz, hzs, hLs⟩ := C
  intro ad H locs ls cells slots hP hD hS hl hso hL hSo had hn hce hsl
  simp only [xall_cons] at hSo
  obtain ⟨q1, q2⟩ := vp_inI hSo.1 hi.1 hi.2
  refine va_sld (A := fun q : Nat => z ≤ q) hx hb hX (by omega) (by omega) hS q1 hdg ?_
  have h := k ad H locs ls cells slots hP hD hS hl hso hL (by simp only [xall_cons]; exact ⟨ti_in _, hSo.2.2⟩) had hn hce hsl
  rw [q2, ← i_of (xs i.toNat)]
  exact h
theorem go_iast {p : Program} {l : Launch} {e : Env} {R : Room} {s : State} {m : MethodId} {args : Array Value} {below : List Frame} {meth : Method} {c : Code} {Q : State → Prop} {own : String} {cc : ByteArray} {nL : Nat} {D : va_G} {cA : ClassId} {b Ls : Nat} {xs : Nat → Int32} {z n0 s0 : Nat} {ad0 : Nat → Nat} {σ : xS} {L : List xV} {pc r n : Nat} {i x : Int} {T : List xV} (C : xC p s m c own cc nL D cA b Ls xs z) (hdg : decode cc pc = .ok (.iastore, 1)) (h0 : σ.1[r]? = some (Sum.inl n)) (hi : 0 ≤ i ∧ i < n) (k : xGo p l e R s m args below meth c Q nL D cA b z n0 s0 ad0 (pc + 1) L T (σ.1, up2 σ.2 r i.toNat x)) : xGo p l e R s m args below meth c Q nL D cA b z n0 s0 ad0 pc L (.inl x :: .inl i :: .inr (.inr (.inl r)) :: T) σ := by
  obtain ⟨hx, hb, -, -, -, hK, -⟩ := C
  intro ad H locs ls cells slots hP hD hS hl hso hL hSo had hn hce hsl
  simp only [xall_cons] at hSo
  obtain ⟨q1, q2⟩ := vp_inI hSo.2.1 hi.1 hi.2
  refine va_iast hx hb hK hP hD hS r 0 (xws_at h0) rfl q1 hdg fun H1 locs1 hP hD hS => ?_
  have e : (Sum.inl (cA, n, Sum.inl (upd (fun j => Int32.ofInt (σ.2 r j)) (Int32.ofInt i).toNatClampNeg (Int32.ofInt x))) : va_E) = xce ad cA (up2 σ.2 r i.toNat x r) (Sum.inl n) := by
    show _ = (Sum.inl (cA, n, Sum.inl fun j => Int32.ofInt (up2 σ.2 r i.toNat x r j)) : va_E)
    congr 4
    funext j
    unfold upd up2
    rw [q2]
    by_cases hj : j = i.toNat
    · rw [if_pos hj, if_pos ⟨rfl, hj⟩]
    · rw [if_neg hj, if_neg (fun h => hj h.2)]
  rw [e, xws_same h0 up_off] at hP hD
  exact k ad H1 locs1 ls cells slots hP hD hS hl (xso_up hso hSo.1) hL hSo.2.2.2 had hn hce hsl
theorem xfck_of {own : String} {w ci k zz : Nat} {ts : List Nat} (h : xfck own w ci k zz ts = true) : ∃ q : vw_C, vwCl[ci]? = some q ∧ k < q.2.2 ∧ (q.2.1 k).1 = q.1 ∧ (if w = 0 then Jvm.Cond.fieldLink own zz q.1 (q.2.1 k).2.1 (q.2.1 k).2.2.1 else Jvm.Cond.fieldLinkNest own zz q.1 (q.2.1 k).2.1 (q.2.1 k).2.2.1 "MergeLine") ∈ lw_tbl := by
  unfold xfck at h
  split at h
  · rename_i q hq
    simp only [Bool.and_eq_true, decide_eq_true_eq] at h
    exact ⟨q, hq, h.1.1, h.1.2, xwat_in h.2⟩
  · cases h
theorem go_getf {p : Program} {l : Launch} {e : Env} {R : Room} {s : State} {m : MethodId} {args : Array Value} {below : List Frame} {meth : Method} {c : Code} {Q : State → Prop} {own : String} {cc : ByteArray} {nL : Nat} {D : va_G} {cA : ClassId} {b Ls : Nat} {xs : Nat → Int32} {z n0 s0 : Nat} {ad0 : Nat → Nat} {σ : xS} {L : List xV} {pc r ci fk zz w : Nat} {ks : List (Option (Option Nat))} {o : Option (Option Nat)} {v : xV} {T : List xV} {ts : List Nat} (C : xC p s m c own cc nL D cA b Ls xs z) (hdg : decode cc pc = .ok (.getfield zz, 3)) (hck : xfck own w ci fk zz ts = true) (h0 : σ.1[r]? = some (Sum.inr (ci, ks))) (hk : ks[fk]? = some o)
    (hv : ∀ ad : Nat → Nat, xfv ad (σ.2 r) fk o = xv ad b v) (hvo : xso σ → xvo σ.1.length v) (k : xGo p l e R s m args below meth c Q nL D cA b z n0 s0 ad0 (pc + 3) L (v :: T) σ) : xGo p l e R s m args below meth c Q nL D cA b z n0 s0 ad0 pc L (.inr (.inr (.inl r)) :: T) σ := by
  obtain ⟨hx, hb, -, hown, hT, hK, -⟩ := C
  intro ad H locs ls cells slots hP hD hS hl hso hL hSo had hn hce hsl
  simp only [xall_cons] at hSo
  obtain ⟨q, hq, hlt, hdc, hw⟩ := xfck_of hck
  have hg := xgood_of hq
  have hk2 := k ad H locs ls cells slots hP hD hS hl hso hL (by simp only [xall_cons]; exact ⟨hvo hso, hSo.2⟩) had hn hce hsl
  have hfs : (ks.mapIdx (xfv ad (σ.2 r)))[fk]? = some (xv ad b v) := by
    rw [List.getElem?_mapIdx, hk, ← hv ad]
    rfl
  have hts := hT.all args
  obtain ⟨C0, TT, N⟩ := q
  by_cases hw0 : w = 0
  · rw [if_pos hw0] at hw
    exact va_get hx hb hts hg.1 hown hK hP r (xws_at h0) hq fk hlt (hT _ hw rfl args) (fun x hx9 => by rw [show (TT fk).1 = C0 from hdc] at hx9; exact hx9) hfs hdg hk2
  · rw [if_neg hw0] at hw
    exact va_getN hx hb hts hg.1 hown hK hP r (xws_at h0) hq fk hlt (hT _ hw rfl args) (fun x hx9 => by rw [show (TT fk).1 = C0 from hdc] at hx9; exact hx9) hfs hdg hk2
theorem xfs_set {ad : Nat → Nat} {ks : List (Option (Option Nat))} {f g : Nat → Int} {k : Nat} {o : Option (Option Nat)} (hk : k < ks.length) (hf : ∀ j, j ≠ k → g j = f j) : (ks.mapIdx (xfv ad f)).set k (xfv ad g k o) = (ks.set k o).mapIdx (xfv ad g) := by
  apply List.ext_getElem?
  intro i
  rw [List.getElem?_set, List.getElem?_mapIdx, List.getElem?_mapIdx, List.getElem?_set]
  by_cases e : k = i
  · subst e
    simp [hk]
  · simp only [if_neg e]
    cases ks[i]? with
    | none => rfl
    | some o2 =>
      simp only [Option.map_some]
      match o2 with
      | none => show some (Value.int (Int32.ofInt (f i))) = some (Value.int (Int32.ofInt (g i))); rw [hf i (Ne.symm e)]
      | some none => rfl
      | some (some r) => rfl
theorem xsz_set {l : List xK} {k : Nat} {q q' : xK} (h : l[k]? = some q) (hq : xks q' = xks q) : xsz (l.set k q') = xsz l := by
  unfold xsz
  congr 1
  apply List.ext_getElem?
  intro i
  rw [List.getElem?_map, List.getElem?_map, List.getElem?_set]
  by_cases e : k = i
  · subst e
    have hl := (List.getElem?_eq_some_iff.mp h).1
    simp [hl, h, hq]
    rw [(List.getElem?_eq_some_iff.mp h).2]
  · simp only [if_neg e]
theorem go_putI {p : Program} {l : Launch} {e : Env} {R : Room} {s : State} {m : MethodId} {args : Array Value} {below : List Frame} {meth : Method} {c : Code} {Q : State → Prop} {own : String} {cc : ByteArray} {nL : Nat} {D : va_G} {cA : ClassId} {b Ls : Nat} {xs : Nat → Int32} {z n0 s0 : Nat} {ad0 : Nat → Nat} {σ : xS} {L : List xV} {pc r ci fk zz w : Nat} {ks : List (Option (Option Nat))} {x : Int} {T : List xV} {ts : List Nat} (C : xC p s m c own cc nL D cA b Ls xs z) (hdg : decode cc pc = .ok (.putfield zz, 3)) (hck : xfck own 0 ci fk zz ts = true) (hfin : xfin ci fk = false) (hw : (w = 0 ∧ xty ci fk = .int) ∨ (w = 1 ∧ xty ci fk = .boolean)) (h0 : σ.1[r]? = some (Sum.inr (ci, ks))) (hk : ks[fk]? = some none) (hz : w = 1 → x = 0 ∨ x = 1) (k : xGo p l e R s m args below meth c Q nL D cA b z n0 s0 ad0 (pc + 3) L T (σ.1, up2 σ.2 r fk x)) : xGo p l e R s m args below meth c Q nL D cA b z n0 s0 ad0 pc L (.inl x :: .inr (.inr (.inl r)) :: T) σ := by
  obtain ⟨hx, hb, -, hown, hT, hK, -⟩ := C
  intro ad H locs ls cells slots hP hD hS hl hso hL hSo had hn hce hsl
  simp only [xall_cons] at hSo
  obtain ⟨q, hq, hlt, hdc, hwd⟩ := xfck_of hck
  rw [if_pos rfl] at hwd
  have hg := xgood_of hq
  have hts := hT.all args
  have hkl := (List.getElem?_eq_some_iff.mp hk).1
  obtain ⟨C0, TT, N⟩ := q
  have hfin2 : (TT fk).2.2.2 = false := by
    unfold xfin at hfin
    rw [hq] at hfin
    exact hfin
  have hnf : narrow (xty ci fk) (.int (Int32.ofInt x)) = .int (Int32.ofInt x) ∧ fits (xty ci fk) (.int (Int32.ofInt x)) = true := by
    rcases hw with ⟨hw0, e⟩ | ⟨hw1, e⟩
    · rw [e]; exact ⟨rfl, rfl⟩
    · rw [e]
      rcases hz hw1 with e2 | e2 <;> rw [e2] <;> exact ⟨by decide +kernel, by decide +kernel⟩
  refine va_put hx hb hts hg.1 (xty ci) hg.2.1 hg.2.2.1 hown hK hP hD hS r (xws_at h0) hq fk hlt (hT _ hwd rfl args) (fun y hx9 => by rw [show (TT fk).1 = C0 from hdc] at hx9; exact hx9) hfin2 (hg.2.1 fk hlt) (v := .int (Int32.ofInt x)) hnf.1 hnf.2 (by simpa using hkl) hdg fun H1 locs1 hP hD hS => ?_
  have e : (Sum.inr (ci, (ks.mapIdx (xfv ad (σ.2 r))).set fk (Value.int (Int32.ofInt x))) : va_E) = xce ad cA (up2 σ.2 r fk x r) (Sum.inr (ci, ks)) := by
    show _ = (Sum.inr (ci, ks.mapIdx (xfv ad (up2 σ.2 r fk x r))) : va_E)
    have h1 := xfs_set (ad := ad) (f := σ.2 r) (g := up2 σ.2 r fk x r) (o := none) hkl (fun j hj => by unfold up2; rw [if_neg (fun h => hj h.2)])
    rw [set_same hk] at h1
    rw [← h1]
    congr 3
    show Value.int (Int32.ofInt x) = Value.int (Int32.ofInt (up2 σ.2 r fk x r fk))
    unfold up2
    rw [if_pos ⟨rfl, rfl⟩]
  rw [e, xws_same h0 up_off] at hP hD
  exact k ad H1 locs1 ls cells slots hP hD hS hl (xso_up hso hSo.1) hL hSo.2.2 had hn hce hsl
theorem go_putR {p : Program} {l : Launch} {e : Env} {R : Room} {s : State} {m : MethodId} {args : Array Value} {below : List Frame} {meth : Method} {c : Code} {Q : State → Prop} {own : String} {cc : ByteArray} {nL : Nat} {D : va_G} {cA : ClassId} {b Ls : Nat} {xs : Nat → Int32} {z n0 s0 : Nat} {ad0 : Nat → Nat} {σ : xS} {L : List xV} {pc r r2 ci fk zz : Nat} {ks : List (Option (Option Nat))} {o : Option Nat} {T : List xV} {ts : List Nat} (C : xC p s m c own cc nL D cA b Ls xs z) (hini : meth.name = "<init>") (hdg : decode cc pc = .ok (.putfield zz, 3)) (hck : xfck own 0 ci fk zz ts = true) (hfin : xfin ci fk = true) (hrf : xrf (xty ci fk) = true) (how : xfow ci fk = own) (h0 : σ.1[r]? = some (Sum.inr (ci, ks))) (hk : ks[fk]? = some (some o)) (k : xGo p l e R s m args below meth c Q nL D cA b z n0 s0 ad0 (pc + 3) L T (σ.1.set r (Sum.inr (ci, ks.set fk (some (some r2)))), σ.2)) : xGo p l e R s m args below meth c Q nL D cA b z n0 s0 ad0 pc L (.inr (.inr (.inl r2)) :: .inr (.inr (.inl r)) :: T) σ := by
  obtain ⟨hx, hb, -, hown, hT, hK, -⟩ := C
  intro ad H locs ls cells slots hP hD hS hl hso hL hSo had hn hce hsl
  simp only [xall_cons] at hSo
  obtain ⟨q, hq, hlt, hdc, hwd⟩ := xfck_of hck
  rw [if_pos rfl] at hwd
  have hg := xgood_of hq
  have hts := hT.all args
  have hkl := (List.getElem?_eq_some_iff.mp hk).1
  obtain ⟨C0, TT, N⟩ := q
  have hfin2 : (TT fk).2.2.2 = true := by
    unfold xfin at hfin
    rw [hq] at hfin
    exact hfin
  have how2 : (TT fk).1 = own := by
    unfold xfow at how
    rw [hq] at how
    exact how
  have hnf : narrow (xty ci fk) (.ref (ad r2)) = .ref (ad r2) ∧ fits (xty ci fk) (.ref (ad r2)) = true := by
    cases hty : xty ci fk <;> rw [hty] at hrf <;> first | (exact ⟨rfl, rfl⟩) | (exact absurd hrf (by decide))
  refine va_putF hx hb hts hg.1 (xty ci) hg.2.1 hg.2.2.1 hown hK hP hD hS r (xws_at h0) hq fk hlt (hT _ hwd rfl args) (fun y hx9 => by rw [show (TT fk).1 = C0 from hdc] at hx9; exact hx9) hfin2 hini how2 (hg.2.1 fk hlt) (v := .ref (ad r2)) hnf.1 hnf.2 (by simpa using hkl) hdg fun H1 locs1 hP hD hS => ?_
  have e : (Sum.inr (ci, (ks.mapIdx (xfv ad (σ.2 r))).set fk (Value.ref (ad r2))) : va_E) = xce ad cA (σ.2 r) (Sum.inr (ci, ks.set fk (some (some r2)))) := by
    show _ = (Sum.inr (ci, (ks.set fk (some (some r2))).mapIdx (xfv ad (σ.2 r))) : va_E)
    rw [← xfs_set (ad := ad) (f := σ.2 r) (o := some (some r2)) hkl (fun j hj => rfl)]
    rfl
  rw [e, xws_upd h0 (fun _ _ => rfl)] at hP hD
  have hlen : (σ.1.set r (Sum.inr (ci, ks.set fk (some (some r2))))).length = σ.1.length := by simp
  refine k ad H1 locs1 ls cells slots hP hD hS hl ⟨hso.1, fun k' n h => ?_, fun k' ci' fs h r' hr' => ?_⟩ (by rw [hlen]; exact hL) (by rw [hlen]; exact hSo.2.2) had (by rw [hlen]; exact hn) (by rw [hlen]; exact hce) (by rw [hsl, xsz_set h0]; simp [xks])
  · rw [List.getElem?_set] at h
    split at h
    · split at h <;> cases h
    · exact hso.2.1 _ _ h
  · show r' < (σ.1.set r (Sum.inr (ci, ks.set fk (some (some r2))))).length
    rw [hlen]
    rw [List.getElem?_set] at h
    split at h
    · split at h
      · cases h
        rcases List.mem_or_eq_of_mem_set hr' with h1 | h1
        · exact hso.2.2 _ _ _ h0 _ h1
        · cases h1
          exact hSo.1
      · cases h
    · exact hso.2.2 _ _ _ h _ hr'
theorem xso_new {σ : xS} {q : xK} (h : xso σ) (hn : ∀ n : Nat, q = .inl n → n ≤ 100000) (hq : ∀ ci fs, q = .inr (ci, fs) → ∀ r : Nat, ¬ some (some r) ∈ fs) : xso (σ.1 ++ [q], zr2 σ.2 σ.1.length) := by
  refine ⟨fun k j => ?_, fun k n hk => ?_, fun k ci fs hk r hr => ?_⟩
  · show in32 (zr2 σ.2 σ.1.length k j)
    unfold zr2
    split
    · exact in32_0
    · exact h.1 _ _
  · have hk : (σ.1 ++ [q])[k]? = some (Sum.inl n) := hk
    by_cases hl : k < σ.1.length
    · rw [List.getElem?_append_left hl] at hk
      exact h.2.1 _ _ hk
    · rw [List.getElem?_append_right (by omega)] at hk
      have hz : k - σ.1.length < 1 := (List.getElem?_eq_some_iff.mp hk).1
      rw [show k - σ.1.length = 0 by omega] at hk
      exact hn n (Option.some.inj hk)
  · have hk : (σ.1 ++ [q])[k]? = some (Sum.inr (ci, fs)) := hk
    by_cases hl : k < σ.1.length
    · rw [List.getElem?_append_left hl] at hk
      have := h.2.2 _ _ _ hk _ hr
      show r < (σ.1 ++ [q]).length
      simp
      omega
    · rw [List.getElem?_append_right (by omega)] at hk
      have hz : k - σ.1.length < 1 := (List.getElem?_eq_some_iff.mp hk).1
      rw [show k - σ.1.length = 0 by omega] at hk
      exact absurd hr (hq ci fs (Option.some.inj hk) r)
theorem xbk_no (ci : Nat) : ∀ r : Nat, ¬ some (some r) ∈ xbk ci := by
  intro r h
  unfold xbk at h
  split at h <;> simp at h
theorem xlh.ad {ls : Array Slot} {nL : Nat} {ad ad' : Nat → Nat} {b n : Nat} {L : List xV} (h : xlh ls nL ad b L) (hL : ∀ v ∈ L, xvo n v) (ha : ∀ k, k < n → ad' k = ad k) : xlh ls nL ad' b L :=
  ⟨h.1, h.2.1, fun i v hi hv => by rw [xv_ad (hL v (List.mem_of_getElem? hi)) ha]; exact h.2.2 i v hi hv⟩
theorem xsz_push (l : List xK) (q : xK) : xsz (l ++ [q]) = xsz l + xks q := by unfold xsz; simp
theorem go_new {p : Program} {l : Launch} {e : Env} {R : Room} {s : State} {m : MethodId} {args : Array Value} {below : List Frame} {meth : Method} {c : Code} {Q : State → Prop} {own : String} {cc : ByteArray} {nL : Nat} {D : va_G} {cA : ClassId} {b Ls : Nat} {xs : Nat → Int32} {z n0 s0 : Nat} {ad0 : Nat → Nat} {σ : xS} {L S : List xV} {pc ci zz : Nat} {ts : List Nat} (C : xC p s m c own cc nL D cA b Ls xs z) (hdg : decode cc pc = .ok (.new zz, 3)) (hck : (match vwCl[ci]? with | some q => xwat ts 0 (.classLink own zz q.1) | none => false) = true)
    (hce0 : σ.1.length + 1 ≤ R.cells + n0) (hsl0 : xsz σ.1 + (xbk ci).length ≤ R.slots + s0) (k : xGo p l e R s m args below meth c Q nL D cA b z n0 s0 ad0 (pc + 3) L (.inr (.inr (.inl σ.1.length)) :: S) (xnw σ ci)) : xGo p l e R s m args below meth c Q nL D cA b z n0 s0 ad0 pc L S σ := by
  obtain ⟨hx, hb, -, hown, hT, hK, -, -, hzs, -⟩ := C
  intro ad H locs ls cells slots hP hD hS hl hso hL hSo had hn hce hsl
  split at hck
  · rename_i q hq
    have hg := xgood_of hq
    have hts := hT.all args
    have hw := xwat_in hck
    obtain ⟨hi1, hi2⟩ := xw_new hq
    obtain ⟨C0, TT, N⟩ := q
    have hN : N = (xbk ci).length := hg.2.2.2.1
    refine va_new (ty := xty ci) hx hb hts hg.1 hg.2.1 hown (hT _ hw rfl args) (hT _ hi1 rfl args) (hT _ hi2 rfl args) hK hP hD hS (fun q hq9 => Nat.le_trans hzs hq9) hq (fs := (xbk ci).mapIdx (xfv ad (fun _ => 0))) (fun j hj => ?_) (by omega) (by show slots + N ≤ R.slots; omega) hdg fun a H1 hP hD hS => ?_
    · obtain ⟨g1, g2⟩ := hg.2.2.2.2 j hj
      unfold vp_V
      rw [List.getD_eq_getElem?_getD, List.getElem?_mapIdx, g1]
      cases hrf : xrf (xty ci j) with
      | true =>
        rw [if_pos rfl]
        show defaultValue (xty ci j) = Value.null
        cases hty : xty ci j <;> rw [hty] at hrf <;> first | rfl | (exact absurd hrf (by decide))
      | false =>
        rw [if_neg (by decide)]
        show defaultValue (xty ci j) = Value.int (Int32.ofInt 0)
        rcases g2 hrf with e | e <;> rw [e] <;> rfl
    · have e := xws_push (ad := ad) (cA := cA) (q := Sum.inr (ci, xbk ci)) (a := a) hso (fun ci' fs e r hr => by cases e; exact absurd hr (xbk_no ci r))
      have e2 : xws ad cA σ ++ [(a, Sum.inr (ci, (xbk ci).mapIdx (xfv ad (fun _ => 0))))] = xws (fun k => if k = σ.1.length then a else ad k) cA (xnw σ ci) := e
      rw [e2] at hP hD
      have hlen : (xnw σ ci).1.length = σ.1.length + 1 := by unfold xnw; simp
      have hadd : ∀ k, k < σ.1.length → (fun k => if k = σ.1.length then a else ad k) k = ad k := fun k hk => by
        show (if k = σ.1.length then a else ad k) = ad k
        rw [if_neg (by omega)]
      have K := k (fun k => if k = σ.1.length then a else ad k) H1 locs ls (cells + 1) (slots + N) hP hD hS (hl.ad hL hadd) (xso_new hso (fun n e => by cases e) (fun ci' fs e => by cases e; exact xbk_no ci)) (fun v hv => xvo_mono (by omega) (hL v hv)) (by
        simp only [xall_cons]
        exact ⟨by show σ.1.length < _; omega, fun v hv => xvo_mono (by omega) (hSo v hv)⟩) (fun k hk => (hadd k (by omega)).trans (had k hk)) (by omega) (by omega) (by
        have : xsz (xnw σ ci).1 = xsz σ.1 + (xbk ci).length := xsz_push _ _
        omega)
      have e3 : List.map (xv (fun k => if k = σ.1.length then a else ad k) b) (Sum.inr (Sum.inr (Sum.inl σ.1.length)) :: S) = Value.ref a :: List.map (xv ad b) S := by
        rw [List.map_cons, xv_ads hSo hadd]
        congr 1
        show Value.ref (if σ.1.length = σ.1.length then a else _) = _
        rw [if_pos rfl]
      rw [e3] at K
      exact K
  · cases hck
def xnas (σ : xS) (n : Nat) : xS := (σ.1 ++ [(Sum.inl n : xK)], zr2 σ.2 σ.1.length)
theorem go_newa {p : Program} {l : Launch} {e : Env} {R : Room} {s : State} {m : MethodId} {args : Array Value} {below : List Frame} {meth : Method} {c : Code} {Q : State → Prop} {own : String} {cc : ByteArray} {nL : Nat} {D : va_G} {cA : ClassId} {b Ls : Nat} {xs : Nat → Int32} {z n0 s0 : Nat} {ad0 : Nat → Nat} {σ : xS} {L : List xV} {pc : Nat} {n : Int} {T : List xV} (C : xC p s m c own cc nL D cA b Ls xs z) (hdg : decode cc pc = .ok (.newarray .int, 2)) (h0 : 0 ≤ n ∧ n ≤ 100000)
    (hce0 : σ.1.length + 1 ≤ R.cells + n0) (hsl0 : xsz σ.1 + n.toNat ≤ R.slots + s0) (k : xGo p l e R s m args below meth c Q nL D cA b z n0 s0 ad0 (pc + 2) L (.inr (.inr (.inl σ.1.length)) :: T) (xnas σ n.toNat)) : xGo p l e R s m args below meth c Q nL D cA b z n0 s0 ad0 pc L (.inl n :: T) σ := by
  obtain ⟨hx, hb, -, hown, hT, hK, -, -, hzs, -⟩ := C
  intro ad H locs ls cells slots hP hD hS hl hso hL hSo had hn hce hsl
  simp only [xall_cons] at hSo
  have hi : in32 n := hSo.1
  have hcl : (Int32.ofInt n).toNatClampNeg = n.toNat := by show (Int32.ofInt n).toInt.toNat = _; rw [i_ti hi]
  have hneg : ¬ Int32.ofInt n < 0 := by rw [show (0 : Int32) = Int32.ofInt 0 from rfl, i_lt hi in32_0]; omega
  have hby : n.toNat * componentBytes .int ≤ 536870912 := by
    have e : componentBytes .int = 4 := by decide +kernel
    rw [e]
    omega
  refine va_newa (atype := .int) (ty := .int) (a0 := (n.toNat, .inl fun _ => Int32.ofInt 0)) (N' := n.toNat) hx hb (hT _ xw_arr rfl args) rfl hK hP hD hS (fun q hq9 => Nat.le_trans hzs hq9) (fun cA => rfl) hneg hcl hby (by omega) (by omega) hdg fun a cA' H1 hK' hP hD hS => ?_
  have hc : cA' = cA := by
    have g1 : s.vm.findClass ("[" ++ (FieldType.int).toString) = some cA := (hK.2 0 _ rfl).2
    have g2 : s.vm.findClass ("[" ++ (FieldType.int).toString) = some cA' := (hK'.2 1 _ rfl).2
    exact Option.some.inj (g2.symm.trans g1)
  subst hc
  have e := xws_push (ad := ad) (cA := cA') (q := Sum.inl n.toNat) (a := a) hso (fun ci' fs e r hr => by cases e)
  have e2 : xws ad cA' σ ++ [(a, Sum.inl (cA', n.toNat, Sum.inl fun _ => Int32.ofInt 0))] = xws (fun k => if k = σ.1.length then a else ad k) cA' (xnas σ n.toNat) := e
  rw [e2] at hP hD
  have hlen : (xnas σ n.toNat).1.length = σ.1.length + 1 := by unfold xnas; simp
  have hadd : ∀ k, k < σ.1.length → (fun k => if k = σ.1.length then a else ad k) k = ad k := fun k hk => by
    show (if k = σ.1.length then a else ad k) = ad k
    rw [if_neg (by omega)]
  have hso' : xso (xnas σ n.toNat) := xso_new hso (fun n' e => by cases e; omega) (fun ci' fs e => by cases e)
  have hsz : xsz (xnas σ n.toNat).1 = xsz σ.1 + n.toNat := xsz_push _ _
  have K := k (fun k => if k = σ.1.length then a else ad k) H1 locs ls (cells + 1) (slots + n.toNat) hP hD hS (hl.ad hL hadd) hso' (fun v hv => xvo_mono (by omega) (hL v hv)) (by
    simp only [xall_cons]
    exact ⟨by show σ.1.length < (xnas σ n.toNat).1.length; omega, fun v hv => xvo_mono (by omega) (hSo.2 v hv)⟩) (fun k hk => (hadd k (by omega)).trans (had k hk)) (by omega) (by omega) (by omega)
  have e3 : List.map (xv (fun k => if k = σ.1.length then a else ad k) b) (Sum.inr (Sum.inr (Sum.inl σ.1.length)) :: T) = Value.ref a :: List.map (xv ad b) T := by
    rw [List.map_cons, xv_ads hSo.2 hadd]
    congr 1
    show Value.ref (if σ.1.length = σ.1.length then a else _) = _
    rw [if_pos rfl]
  rw [e3] at K
  exact K
theorem go_oinit {p : Program} {l : Launch} {e : Env} {R : Room} {s : State} {m : MethodId} {args : Array Value} {below : List Frame} {meth : Method} {c : Code} {Q : State → Prop} {own : String} {cc : ByteArray} {nL : Nat} {D : va_G} {cA : ClassId} {b Ls : Nat} {xs : Nat → Int32} {z n0 s0 : Nat} {ad0 : Nat → Nat} {σ : xS} {L : List xV} {pc r zz : Nat} {T : List xV} (C : xC p s m c own cc nL D cA b Ls xs z) (hdg : decode cc pc = .ok (.invokespecial zz, 3)) {ts : List Nat} (hw : xwat ts 0 (.methodLink own zz Lib.objectInit) = true) (hR : 1 ≤ R.frames ∧ 20 ≤ R.locals) (hT8 : xle 8 T = true) (k : xGo p l e R s m args below meth c Q nL D cA b z n0 s0 ad0 (pc + 3) L T σ) : xGo p l e R s m args below meth c Q nL D cA b z n0 s0 ad0 pc L (.inr (.inr (.inl r)) :: T) σ := by
  obtain ⟨hx, hb, hml, hown, hT, -⟩ := C
  refine xGo.stk (fun _ h => ?_) (fun ad H locs ls cells slots hl hL h hso K => ?_) k
  · simp only [xall_cons] at h
    exact h.2
  · have hc := xle_cat (ad := ad) (b := b) 8 T hT8
    exact W.objInit hx hb hown (hT _ (xwat_in hw) rfl args) (hT _ xw_oi1 rfl args) (hT _ xw_oi2 rfl args) rfl (by rw [hml]; exact hl.1) rfl hdg hR.1 (by show 2 * 0 + _ + 12 ≤ _; omega) K
theorem go_mmin {p : Program} {l : Launch} {e : Env} {R : Room} {s : State} {m : MethodId} {args : Array Value} {below : List Frame} {meth : Method} {c : Code} {Q : State → Prop} {own : String} {cc : ByteArray} {nL : Nat} {D : va_G} {cA : ClassId} {b Ls : Nat} {xs : Nat → Int32} {z n0 s0 : Nat} {ad0 : Nat → Nat} {σ : xS} {L : List xV} {pc zz : Nat} {x y : Int} {T : List xV} (C : xC p s m c own cc nL D cA b Ls xs z) (hdg : decode cc pc = .ok (.invokestatic zz, 3)) {ts : List Nat} (hw : xwat ts 0 (.methodLink own zz Lib.Math.min.name) = true) (hR : 1 ≤ R.frames ∧ 21 ≤ R.locals) (hT8 : xle 8 T = true) (hcl : σ.1.length ≤ R.cells + n0 ∧ xsz σ.1 ≤ R.slots + s0) (k : xGo p l e R s m args below meth c Q nL D cA b z n0 s0 ad0 (pc + 3) L (.inl (if y < x then y else x) :: T) σ) : xGo p l e R s m args below meth c Q nL D cA b z n0 s0 ad0 pc L (.inl y :: .inl x :: T) σ := by
  obtain ⟨hx, hb, hml, hown, hT, -⟩ := C
  intro ad H locs ls cells slots hP hD hS hl hso hL hSo had hn hce hsl
  simp only [xall_cons] at hSo
  have hc := xle_cat (ad := ad) (b := b) 8 T hT8
  have K := k ad H locs ls cells slots hP hD hS hl hso hL (by
    simp only [xall_cons]
    refine ⟨?_, hSo.2.2⟩
    split
    · exact hSo.1
    · exact hSo.2.1) had hn hce hsl
  refine va_mmin hx hb (by rw [hml]; exact hl.1.symm) hown (hT _ (xwat_in hw) rfl args) (hT _ xw_mm1 rfl args) (hT _ xw_mm2 rfl args) (hT _ xw_mm3 rfl args) hR.1 (by omega) (by omega) (by omega) hdg ?_
  have e : (if Int32.ofInt y < Int32.ofInt x then Int32.ofInt y else Int32.ofInt x) = Int32.ofInt (if y < x then y else x) := by
    simp only [i_lt hSo.1 hSo.2.1]
    split <;> rfl
  rw [e]
  exact K
theorem go_acopy {p : Program} {l : Launch} {e : Env} {R : Room} {s : State} {m : MethodId} {args : Array Value} {below : List Frame} {meth : Method} {c : Code} {Q : State → Prop} {own : String} {cc : ByteArray} {nL : Nat} {D : va_G} {cA : ClassId} {b Ls : Nat} {xs : Nat → Int32} {z n0 s0 : Nat} {ad0 : Nat → Nat} {σ : xS} {L : List xV} {pc zz a d la ld : Nat} {sp dp n : Int} {T : List xV} (C : xC p s m c own cc nL D cA b Ls xs z) (hdg : decode cc pc = .ok (.invokestatic zz, 3)) {ts : List Nat} (hw : xwat ts 0 (.methodLink own zz arraycopyName) = true) (hR : 1 ≤ R.frames ∧ 8 + (nativeFrameWords "java/lang/System" "arraycopy" 5 + 11) ≤ R.locals) (hT8 : xle 8 T = true) (ha : σ.1[a]? = some (Sum.inl la)) (hd : σ.1[d]? = some (Sum.inl ld)) (hr : 0 ≤ sp ∧ 0 ≤ dp ∧ 0 ≤ n ∧ sp + n ≤ la ∧ dp + n ≤ ld)
    (k : xGo p l e R s m args below meth c Q nL D cA b z n0 s0 ad0 (pc + 3) L T (σ.1, cp2 σ.2 a sp.toNat d dp.toNat n.toNat)) : xGo p l e R s m args below meth c Q nL D cA b z n0 s0 ad0 pc L (.inl n :: .inl dp :: .inr (.inr (.inl d)) :: .inl sp :: .inr (.inr (.inl a)) :: T) σ := by
  obtain ⟨hx, hb, hml, hown, hT, hK, -⟩ := C
  intro ad H locs ls cells slots hP hD hS hl hso hL hSo had hn hce hsl
  simp only [xall_cons] at hSo
  obtain ⟨hn1, hdp1, -, hsp1, -, hSo2⟩ := hSo
  have hn1 : in32 n := hn1
  have hdp1 : in32 dp := hdp1
  have hsp1 : in32 sp := hsp1
  have hc := xle_cat (ad := ad) (b := b) 8 T hT8
  have cl : ∀ {x : Int}, in32 x → (Int32.ofInt x).toNatClampNeg = x.toNat := fun h => by show (Int32.ofInt _).toInt.toNat = _; rw [i_ti h]
  have nn : ∀ {x : Int}, in32 x → 0 ≤ x → ¬ Int32.ofInt x < 0 := fun h h0 => by rw [show (0 : Int32) = Int32.ofInt 0 from rfl, i_lt h in32_0]; omega
  refine va_copyi (q0 := a) (q1 := d) (t0 := 0) (t1 := 0) (ty := .int) hx hb (by rw [hml]; exact hl.1.symm) hown (hT _ (xwat_in hw) rfl args) (hT _ xw_ac1 rfl args) (hT _ xw_ac2 rfl args) (hT _ xw_ac3 rfl args) hK hP hD hS (xws_at ha) (xws_at hd) rfl rfl rfl (nn hsp1 hr.1) (nn hdp1 hr.2.1) (nn hn1 hr.2.2.1) (by rw [cl hsp1, cl hn1]; omega) (by rw [cl hdp1, cl hn1]; omega) (fun i hi => rfl) hR.1 (by omega) hdg fun H1 locs1 hP hD hS => ?_
  have e : (Sum.inl (cA, ld, Sum.inl (va_cpy (fun j => Int32.ofInt (σ.2 a j)) (fun j => Int32.ofInt (σ.2 d j)) (Int32.ofInt sp).toNatClampNeg (Int32.ofInt dp).toNatClampNeg (Int32.ofInt n).toNatClampNeg)) : va_E) = xce ad cA (cp2 σ.2 a sp.toNat d dp.toNat n.toNat d) (Sum.inl ld) := by
    show _ = (Sum.inl (cA, ld, Sum.inl fun j => Int32.ofInt (cp2 σ.2 a sp.toNat d dp.toNat n.toNat d j)) : va_E)
    congr 4
    funext j
    unfold va_cpy cp2
    rw [cl hsp1, cl hdp1, cl hn1]
    by_cases hj : dp.toNat ≤ j ∧ j < dp.toNat + n.toNat
    · rw [if_pos hj, if_pos ⟨rfl, hj⟩]
    · rw [if_neg hj, if_neg (fun h => hj h.2)]
  rw [e, xws_same hd (fun i hi => by funext j; unfold cp2; rw [if_neg (fun h => hi h.1)])] at hP hD
  refine k ad H1 locs1 ls cells slots hP hD hS hl ⟨fun k' j => ?_, hso.2⟩ hL hSo2 had hn hce hsl
  show in32 (cp2 σ.2 a sp.toNat d dp.toNat n.toNat k' j)
  unfold cp2
  split
  · exact hso.1 _ _
  · exact hso.1 _ _
end
section
/-! calls, and a whole run -/
def xle2 (σ σ' : xS) : Prop := σ.1.length ≤ σ'.1.length ∧ xsz σ.1 ≤ xsz σ'.1
theorem xle2.rf {σ : xS} : xle2 σ σ := ⟨Nat.le_refl _, Nat.le_refl _⟩
theorem xle2.tr {σ1 σ2 σ3 : xS} (h : xle2 σ1 σ2) (h2 : xle2 σ2 σ3) : xle2 σ1 σ3 := ⟨Nat.le_trans h.1 h2.1, Nat.le_trans h.2 h2.2⟩
theorem xgi_of {σ : xS} {h0 ci k : Nat} {x : Int} (h : xgi σ h0 ci k = some x) : ∃ ks, σ.1[h0]? = some (Sum.inr (ci, ks)) ∧ ks[k]? = some none ∧ x = σ.2 h0 k := by
  unfold xgi at h
  split at h
  · split at h
    · rename_i hc
      subst hc
      split at h
      · cases h; exact ⟨_, by assumption, by assumption, rfl⟩
      · cases h
    · cases h
  · cases h
theorem xgr_of {σ : xS} {h0 ci k r : Nat} (h : xgr σ h0 ci k = some r) : ∃ ks, σ.1[h0]? = some (Sum.inr (ci, ks)) ∧ ks[k]? = some (some (some r)) := by
  unfold xgr at h
  split at h
  · split at h
    · rename_i hc
      subst hc
      split at h
      · cases h; exact ⟨_, by assumption, by assumption⟩
      · cases h
    · cases h
  · cases h
theorem xpi_of {σ : xS} {h0 ci k : Nat} {u : Unit} (h : xpi σ h0 ci k = some u) : ∃ ks, σ.1[h0]? = some (Sum.inr (ci, ks)) ∧ ks[k]? = some none := by
  unfold xpi at h
  split at h
  · split at h
    · rename_i hc
      subst hc
      split at h
      · cases h; exact ⟨_, by assumption, by assumption⟩
      · cases h
    · cases h
  · cases h
theorem xpr_of {σ σ' : xS} {h0 ci k r : Nat} (h : xpr σ h0 ci k r = some σ') : ∃ ks o, σ.1[h0]? = some (Sum.inr (ci, ks)) ∧ ks[k]? = some (some o) ∧ σ' = (σ.1.set h0 (Sum.inr (ci, ks.set k (some (some r)))), σ.2) := by
  unfold xpr at h
  split at h
  · split at h
    · rename_i hc
      subst hc
      split at h
      · cases h; exact ⟨_, _, by assumption, by assumption, rfl⟩
      · cases h
    · cases h
  · cases h
theorem xna_of {σ σ' : xS} {n : Int} (h : xna σ n = some σ') : (0 ≤ n ∧ n ≤ 100000) ∧ σ' = xnas σ n.toNat := by
  unfold xna at h
  split at h
  · cases h; exact ⟨by assumption, rfl⟩
  · cases h
theorem xle2_pr {σ : xS} {h0 ci k r : Nat} {ks : List (Option (Option Nat))} (h : σ.1[h0]? = some (Sum.inr (ci, ks))) : xle2 σ (σ.1.set h0 (Sum.inr (ci, ks.set k (some (some r)))), σ.2) :=
  ⟨by simp, by show _ ≤ xsz (σ.1.set h0 _); rw [xsz_set h (by simp [xks])]; exact Nat.le_refl _⟩
theorem xle2_nw {σ : xS} {ci : Nat} : xle2 σ (xnw σ ci) := ⟨by unfold xnw; simp, by show _ ≤ xsz (σ.1 ++ _); rw [xsz_push]; omega⟩
theorem xle2_na {σ : xS} {n : Nat} : xle2 σ (xnas σ n) := ⟨by unfold xnas; simp, by show _ ≤ xsz (σ.1 ++ _); rw [xsz_push]; omega⟩
theorem xmemo_sz {sc : Nat × (Nat → Int)} {o w a c : Nat} {S : List xV} {σ : xS} {q : List xV × xS} (h : xmemo sc o w a c S σ = some q) : xle2 σ q.2 := by
  unfold xmemo at h
  split at h
  · obtain ⟨q1, -, h⟩ := Option.bind_eq_some_iff.mp h
    obtain ⟨q2, -, h⟩ := Option.bind_eq_some_iff.mp h
    cases h; exact .rf
  · obtain ⟨q1, -, h⟩ := Option.bind_eq_some_iff.mp h
    obtain ⟨q2, -, h⟩ := Option.bind_eq_some_iff.mp h
    cases h; exact .rf
  · obtain ⟨q1, -, h⟩ := Option.bind_eq_some_iff.mp h
    obtain ⟨q2, -, h⟩ := Option.bind_eq_some_iff.mp h
    cases h; exact .rf
  · obtain ⟨q1, -, h⟩ := Option.bind_eq_some_iff.mp h
    obtain ⟨σ', hs, h⟩ := Option.bind_eq_some_iff.mp h
    obtain ⟨ks, o, h1, -, rfl⟩ := xpr_of hs
    cases h; exact xle2_pr h1
  · cases h; exact xle2_nw
  · obtain ⟨q1, -, h⟩ := Option.bind_eq_some_iff.mp h
    obtain ⟨σ', hs, h⟩ := Option.bind_eq_some_iff.mp h
    obtain ⟨-, rfl⟩ := xna_of hs
    cases h; exact xle2_na
  · obtain ⟨q1, -, h⟩ := Option.bind_eq_some_iff.mp h
    obtain ⟨q2, -, h⟩ := Option.bind_eq_some_iff.mp h
    cases h; exact .rf
  · obtain ⟨q1, -, h⟩ := Option.bind_eq_some_iff.mp h
    obtain ⟨q2, -, h⟩ := Option.bind_eq_some_iff.mp h
    cases h; exact .rf
  · cases h
theorem ite_or {P : Prop} [Decidable P] {t : Option xR} {r : xR} (h : (if P then t else none) = some r) : P ∧ t = some r := by
  split at h
  · exact ⟨by assumption, h⟩
  · cases h
theorem xif_or {c : Nat} {x y : Int} {t e : Option xR} {r : xR} (h : xif c x y t e = some r) : t = some r ∨ e = some r := by
  unfold xif at h
  split at h <;> split at h <;> first | exact Or.inl h | exact Or.inr h
theorem xsw_or {x : Int} {J : Nat → Option xR} {d : Nat} {r : xR} : ∀ (ts : List Nat) (lo : Int), xsw x J d lo ts = some r → ∃ b, J b = some r := by
  intro ts
  induction ts with
  | nil => intro lo h; exact ⟨d, h⟩
  | cons t ts ih =>
    intro lo h
    unfold xsw at h
    split at h
    · exact ⟨t, h⟩
    · exact ih _ h
theorem xstep_sz {sc : Nat × (Nat → Int)} {env : Nat → List xV → xS → Option xR} {j : Nat → List xV → List xV → xS → Option xR} {e : xI} {L S : List xV} {σ : xS} {k : List xV → List xV → xS → Option xR} {r : xR}
    (hE : ∀ a as σ q, env a as σ = some q → xle2 σ q.2) (hJ : ∀ b L S σ, j b L S σ = some r → xle2 σ r.2) (hk : ∀ L S σ, k L S σ = some r → xle2 σ r.2)
    (h : xstep sc env j e L S σ k = some r) : xle2 σ r.2 := by
  obtain ⟨pc, len, o, w, a, c, z, v, ts⟩ := e
  unfold xstep at h
  dsimp only at h
  split at h
  · exact hJ _ _ _ _ h
  · exact hJ _ _ _ _ h
  · obtain ⟨q, hq, h⟩ := Option.bind_eq_some_iff.mp h
    rcases xif_or h with h | h
    · exact hJ _ _ _ _ h
    · exact hk _ _ _ h
  · obtain ⟨q, hq, h⟩ := Option.bind_eq_some_iff.mp h
    rcases xif_or h with h | h
    · exact hJ _ _ _ _ h
    · exact hk _ _ _ h
  · obtain ⟨q, hq, h⟩ := Option.bind_eq_some_iff.mp h
    obtain ⟨b, h⟩ := xsw_or _ _ h
    exact hJ _ _ _ _ h
  iterate 5
    · obtain ⟨q, hq, h⟩ := Option.bind_eq_some_iff.mp h
      exact hk _ _ _ (ite_or h).2
  · obtain ⟨q, hq, h⟩ := Option.bind_eq_some_iff.mp h
    obtain ⟨n, hn, h⟩ := Option.bind_eq_some_iff.mp h
    exact hk _ _ _ (ite_or h).2
  · obtain ⟨q, hq, h⟩ := Option.bind_eq_some_iff.mp h
    obtain ⟨q2, hq2, h⟩ := Option.bind_eq_some_iff.mp h
    obtain ⟨n, hn, h⟩ := Option.bind_eq_some_iff.mp h
    have g := hk _ _ _ (ite_or h).2
    exact g
  · obtain ⟨q, hq, h⟩ := Option.bind_eq_some_iff.mp h
    obtain ⟨u, hu, h⟩ := Option.bind_eq_some_iff.mp h
    split at h
    · have g := hk _ _ _ h
      exact g
    · have g := hk _ _ _ (ite_or h).2
      exact g
  · obtain ⟨n, hn, h⟩ := Option.bind_eq_some_iff.mp h
    obtain ⟨d, hd, h⟩ := Option.bind_eq_some_iff.mp h
    obtain ⟨s, hs, h⟩ := Option.bind_eq_some_iff.mp h
    obtain ⟨S', hS, h⟩ := Option.bind_eq_some_iff.mp h
    obtain ⟨la, hla, h⟩ := Option.bind_eq_some_iff.mp h
    obtain ⟨ld, hld, h⟩ := Option.bind_eq_some_iff.mp h
    have g := hk _ _ _ (ite_or h).2
    exact g
  iterate 8
    · obtain ⟨q, hq, h⟩ := Option.bind_eq_some_iff.mp h
      exact (xmemo_sz hq).tr (hk _ _ _ h)
  · obtain ⟨q, hq, h⟩ := Option.bind_eq_some_iff.mp h
    obtain ⟨S', hS, h⟩ := Option.bind_eq_some_iff.mp h
    obtain ⟨x, σ', hc, h⟩ := xcI_of h
    obtain ⟨h0, as', e1, e2, e3⟩ := xcv_of hc
    exact (hE _ _ _ _ e3).tr (hk _ _ _ h)
  · obtain ⟨q, hq, h⟩ := Option.bind_eq_some_iff.mp h
    obtain ⟨S', hS, h⟩ := Option.bind_eq_some_iff.mp h
    obtain ⟨σ', hc, h⟩ := xcV_of h
    obtain ⟨h0, as', e1, e2, e3⟩ := xcv_of hc
    exact (hE _ _ _ _ e3).tr (hk _ _ _ h)
  · obtain ⟨q, hq, h⟩ := Option.bind_eq_some_iff.mp h
    obtain ⟨S', hS, h⟩ := Option.bind_eq_some_iff.mp h
    obtain ⟨x, σ', hc, h⟩ := xcI_of h
    exact (hE _ _ _ _ hc).tr (hk _ _ _ h)
  · obtain ⟨q, hq, h⟩ := Option.bind_eq_some_iff.mp h
    obtain ⟨S', hS, h⟩ := Option.bind_eq_some_iff.mp h
    obtain ⟨σ', hc, h⟩ := xcV_of h
    obtain ⟨h0, as', e1, e3⟩ := xci_of hc
    exact (hE _ _ _ _ e3).tr (hk _ _ _ h)
  · obtain ⟨q, hq, h⟩ := Option.bind_eq_some_iff.mp h
    split at h
    · cases h; exact .rf
    · have h := (ite_or h).2
      cases h; exact .rf
  · obtain ⟨q, hq, h⟩ := Option.bind_eq_some_iff.mp h
    cases h; exact .rf
  · obtain ⟨q, hq, h⟩ := Option.bind_eq_some_iff.mp h
    exact hk _ _ _ h
theorem xblk_sz {sc : Nat × (Nat → Int)} {env : Nat → List xV → xS → Option xR} {j : Nat → List xV → List xV → xS → Option xR} {r : xR}
    (hE : ∀ a as σ q, env a as σ = some q → xle2 σ q.2) (hJ : ∀ b L S σ, j b L S σ = some r → xle2 σ r.2) : ∀ (es : List xI) (L S : List xV) (σ : xS), xblk sc env j es L S σ = some r → xle2 σ r.2 := by
  intro es
  induction es with
  | nil => intro L S σ h; cases h
  | cons e es ih => intro L S σ h; exact xstep_sz hE hJ ih h
theorem xrun_sz {sc : Nat × (Nat → Int)} {cd : Nat → Nat → List xI} {nl : Nat → Nat} {mk : Nat → Nat → List Bool} : ∀ (n mi b : Nat) (L S : List xV) (σ : xS) (r : xR), xrun sc cd nl mk n mi b L S σ = some r → xle2 σ r.2 := by
  intro n
  induction n with
  | zero => intro mi b L S σ r h; cases h
  | succ n ih =>
    intro mi b L S σ r h
    unfold xrun at h
    exact xblk_sz (fun a as σ q hq => ih _ _ _ _ _ _ (xen_of hq).2) (fun b L S σ hq => ih _ _ _ _ _ _ hq) _ _ _ _ h
/-- the world of a method: its cells, the script, the tables -/
def xWd (D : va_G) (cA : ClassId) (b Ls : Nat) (xs : Nat → Int32) (z : Nat) (ad : Nat → Nat) (σ : xS) (U : State) : Prop :=
  va_P D vwCl (xws ad cA σ) U.heap ∧ va_K D vwCl [(cA, .int)] U ∧ va_D (fun q : Nat => z ≤ q) (xws ad cA σ) ∧ va_X b Ls xs U U.heap ∧ b < z ∧ z ≤ U.heap.size ∧ xTb U
def xB (D : va_G) (cA : ClassId) (z : Nat) (q : xR) (ad : Nat → Nat) (t : State) : Prop := va_P D vwCl (xws ad cA q.2) t.heap ∧ va_D (fun k : Nat => z ≤ k) (xws ad cA q.2) ∧ xso q.2
def xQ (D : va_G) (cA : ClassId) (z n : Nat) (ad : Nat → Nat) (q : xR) : Array Value → State → Outcome → State → Prop := match q.1 with
  | some (.inl x) => va_Qi (fun r (ad' : Nat → Nat) => (r = Int32.ofInt x ∧ in32 x) ∧ ∀ k : Nat, k < n → ad' k = ad k) (xB D cA z q) (fun k => z ≤ k)
  | none => va_Qv (fun (ad' : Nat → Nat) => ∀ k : Nat, k < n → ad' k = ad k) (xB D cA z q) (fun k => z ≤ k)
  | _ => fun _ _ _ _ => False
def xrm (t : xT) (σ : xS) (q : xR) : Room := { frames := t.2.2.2.2.1, cells := q.2.1.length - σ.1.length, slots := xsz q.2.1 - xsz σ.1, locals := t.2.2.2.2.2 }
/-- a method's contract at these arguments, from this store -/
def xMet (l : Launch) (Ls : Nat) (xs : Nat → Int32) (a : Nat) (as : List xV) (σ : xS) (q : xR) : Prop := ∀ (t : xT), xmt[a]? = some t → ∀ (D : va_G) (cA : ClassId) (b z : Nat) (ad : Nat → Nat), xso σ → (∀ v ∈ as, xvo σ.1.length v) →
  Met l t.1 [Jvm.Cond.code t.1 t.2.1 t.2.2.1 t.2.2.2.1] (xrm t σ q) (va_Pc (as.map (xv ad b)) (xWd D cA b Ls xs z ad σ)) (xQ D cA z σ.1.length ad q) (q.2.1.length - σ.1.length) (xsz q.2.1 - xsz σ.1) (fun k => z ≤ k)
theorem xWd_blind {D : va_G} {cA : ClassId} {b Ls : Nat} {xs : Nat → Int32} {z : Nat} {ad : Nat → Nat} {σ : xS} {vs : List Value} : FrameBlind (va_Pc vs (xWd D cA b Ls xs z ad σ)) := by
  intro a U g mk h
  obtain ⟨h0, h1, h2, h3, h4, h5, h6, h7⟩ := h
  exact ⟨h0, h1, va_K.moved (u := U) (U := U.calling g mk a) (Vm.Alike.refl U.vm) h2, h3, va_X.moved (u := U) (U := U.calling g mk a) (Vm.Alike.refl U.vm) h4, h5, h6, xTb.warm (s := U) (U := U.calling g mk a) (State.WarmedH.refl U) h7⟩
theorem xWd_at {p : Program} {s : State} {m : MethodId} {c : Code} {own : String} {cc : ByteArray} {nL : Nat} {D : va_G} {cA : ClassId} {b Ls : Nat} {xs : Nat → Int32} {z : Nat} {σ : xS} (C : xC p s m c own cc nL D cA b Ls xs z) {ad : Nat → Nat} {H : Heap} {locs : List Loc} (hP : va_P D vwCl (xws ad cA σ) H) (hD : va_D (fun q : Nat => z ≤ q) (xws ad cA σ)) (hS : va_S (fun q : Nat => z ≤ q) s.heap H locs) {U : State} (hU : U.heap = H) (hW : s.WarmedH U.vm) : xWd D cA b Ls xs z ad σ U := by
  obtain ⟨hx, hb, hml, hown, hT, hK, hX, hbz, hzs, -⟩ := C
  refine ⟨by rw [hU]; exact hP, va_K.moved hW.alike hK, hD, ?_, hbz, by rw [hU]; exact Nat.le_trans hzs hS.1, hT.warm hW⟩
  rw [hU]
  exact (va_X.moved hW.alike hX).kept (hS.2.1 b (by omega) (by omega))
/-- behind a call that gives an int -/
theorem go_afterI {p : Program} {l : Launch} {e : Env} {R : Room} {s : State} {m : MethodId} {args : Array Value} {below : List Frame} {meth : Method} {c : Code} {Q : State → Prop} {nL : Nat} {D : va_G} {cA : ClassId} {b : Nat} {z n0 s0 : Nat} {ad0 : Nat → Nat} {σ : xS} {L : List xV} {pc mc ms : Nat} {q : xR} {x : Int} {T : List xV} {ad : Nat → Nat} {H : Heap} {locs : List Loc} {ls : Array Slot} {cells slots : Nat} {st0 : List Value} {av : Array Value} (hq : q.1 = some (.inl x)) (hsz : xle2 σ q.2) (hmc : mc = q.2.1.length - σ.1.length) (hms : ms = xsz q.2.1 - xsz σ.1)
    (hS : va_S (fun q : Nat => z ≤ q) s.heap H locs) (hl : xlh ls nL ad b L) (hL : ∀ v ∈ L, xvo σ.1.length v) (hT : ∀ v ∈ T, xvo σ.1.length v) (had : ∀ k : Nat, k < n0 → ad k = ad0 k) (hn : n0 ≤ σ.1.length) (hce : cells + n0 = σ.1.length) (hsl : slots + s0 = xsz σ.1)
    (hr : va_Run p l e R s m args below meth c H locs cells slots mc ms (F0 m pc ls st0) (T.map (xv ad b)) (xQ D cA z σ.1.length ad q av) (fun k => z ≤ k)) (k : xGo p l e R s m args below meth c Q nL D cA b z n0 s0 ad0 (pc + 3) L (.inl x :: T) q.2) : W p l e R s m args below meth c H locs cells slots Q (F0 m pc ls st0) := by
  have hr2 : va_Run p l e R s m args below meth c H locs cells slots mc ms (F0 m pc ls st0) (T.map (xv ad b)) (va_Qi (fun r (ad' : Nat → Nat) => (r = Int32.ofInt x ∧ in32 x) ∧ ∀ k : Nat, k < σ.1.length → ad' k = ad k) (xB D cA z q) (fun k => z ≤ k) av) (fun k => z ≤ k) := by
    unfold xQ at hr
    rw [hq] at hr
    exact hr
  refine va_calli (A0 := fun k : Nat => z ≤ k) hr2 hS (fun _ _ h => h) (fun _ h => h) fun r ad' t H1 locs1 ht hvm hp hB hz1 hk1 hS1 => ?_
  obtain ⟨⟨rfl, hx32⟩, hag⟩ := hp
  obtain ⟨hP1, hD1, hso1⟩ := hB
  rw [ht] at hP1
  have h1 := hsz.1
  have h2 := hsz.2
  have K := k ad' H1 locs1 ls (cells + mc) (slots + ms) hP1 hD1 hS1 (hl.ad hL hag) hso1 (fun v hv => xvo_mono h1 (hL v hv)) (by
    simp only [xall_cons]
    exact ⟨hx32, fun v hv => xvo_mono h1 (hT v hv)⟩) (fun k hk => (hag k (by omega)).trans (had k hk)) (by omega) (by omega) (by omega)
  rw [List.map_cons, xv_ads hT hag] at K
  exact K
theorem go_afterV {p : Program} {l : Launch} {e : Env} {R : Room} {s : State} {m : MethodId} {args : Array Value} {below : List Frame} {meth : Method} {c : Code} {Q : State → Prop} {nL : Nat} {D : va_G} {cA : ClassId} {b : Nat} {z n0 s0 : Nat} {ad0 : Nat → Nat} {σ : xS} {L : List xV} {pc mc ms : Nat} {q : xR} {T : List xV} {ad : Nat → Nat} {H : Heap} {locs : List Loc} {ls : Array Slot} {cells slots : Nat} {st0 : List Value} {av : Array Value} (hq : q.1 = none) (hsz : xle2 σ q.2) (hmc : mc = q.2.1.length - σ.1.length) (hms : ms = xsz q.2.1 - xsz σ.1)
    (hS : va_S (fun q : Nat => z ≤ q) s.heap H locs) (hl : xlh ls nL ad b L) (hL : ∀ v ∈ L, xvo σ.1.length v) (hT : ∀ v ∈ T, xvo σ.1.length v) (had : ∀ k : Nat, k < n0 → ad k = ad0 k) (hn : n0 ≤ σ.1.length) (hce : cells + n0 = σ.1.length) (hsl : slots + s0 = xsz σ.1)
    (hr : va_Run p l e R s m args below meth c H locs cells slots mc ms (F0 m pc ls st0) (T.map (xv ad b)) (xQ D cA z σ.1.length ad q av) (fun k => z ≤ k)) (k : xGo p l e R s m args below meth c Q nL D cA b z n0 s0 ad0 (pc + 3) L T q.2) : W p l e R s m args below meth c H locs cells slots Q (F0 m pc ls st0) := by
  have hr2 : va_Run p l e R s m args below meth c H locs cells slots mc ms (F0 m pc ls st0) (T.map (xv ad b)) (va_Qv (fun (ad' : Nat → Nat) => ∀ k : Nat, k < σ.1.length → ad' k = ad k) (xB D cA z q) (fun k => z ≤ k) av) (fun k => z ≤ k) := by
    unfold xQ at hr
    rw [hq] at hr
    exact hr
  refine va_callv (A0 := fun k : Nat => z ≤ k) hr2 hS (fun _ _ h => h) (fun _ h => h) fun ad' t H1 locs1 ht hvm hag hB hz1 hk1 hS1 => ?_
  obtain ⟨hP1, hD1, hso1⟩ := hB
  rw [ht] at hP1
  have h1 := hsz.1
  have h2 := hsz.2
  have K := k ad' H1 locs1 ls (cells + mc) (slots + ms) hP1 hD1 hS1 (hl.ad hL hag) hso1 (fun v hv => xvo_mono h1 (hL v hv)) (fun v hv => xvo_mono h1 (hT v hv)) (fun k hk => (hag k (by omega)).trans (had k hk)) (by omega) (by omega) (by omega)
  rw [xv_ads hT hag] at K
  exact K
theorem xtake_of : ∀ (n : Nat) (acc S : List xV) (q : List xV × List xV), xtake n acc S = some q → ∃ T, S = T ++ q.2 ∧ q.1 = T.reverse ++ acc ∧ T.length = n := by
  intro n
  induction n with
  | zero => intro acc S q h; cases h; exact ⟨[], rfl, rfl, rfl⟩
  | succ n ih =>
    intro acc S q h
    cases S with
    | nil => cases h
    | cons v S =>
      obtain ⟨T, h1, h2, h3⟩ := ih _ _ _ h
      exact ⟨v :: T, by rw [h1]; rfl, by rw [h2]; simp, by simp [h3]⟩
theorem xcw_at {a : Nat} {t : xT} (ha : a < 233) (ht : xmt[a]? = some t) : Jvm.Cond.code t.1 t.2.1 t.2.2.1 t.2.2.2.1 ∈ lw_tbl := by
  have hin : ∀ (l : List xT) (ps : List Nat), (l.map fun t => Jvm.Cond.code t.1 t.2.1 t.2.2.1 t.2.2.2.1) = ps.filterMap (fun i => lw_tbl[i]?) → t ∈ l → Jvm.Cond.code t.1 t.2.1 t.2.2.1 t.2.2.2.1 ∈ lw_tbl := by
    intro l ps h1 h2
    have h3 := List.mem_map_of_mem (f := fun t : xT => Jvm.Cond.code t.1 t.2.1 t.2.2.1 t.2.2.2.1) h2
    rw [h1] at h3
    obtain ⟨i, -, hi⟩ := List.mem_filterMap.mp h3
    exact List.mem_of_getElem? hi
  have e : xmt = xmt_0 ++ (xmt_1 ++ (xmt_2 ++ (xmt_3 ++ (xmt_4 ++ xmt_5)))) := rfl
  have hm : t ∈ xmt_0 ∨ t ∈ xmt_1 ∨ t ∈ xmt_2 ∨ t ∈ xmt_3 ∨ t ∈ xmt_4 ∨ t ∈ xmt_5.take 33 := by
    rw [e] at ht
    by_cases h0 : a < 40
    · exact Or.inl (List.mem_of_getElem? (by rwa [List.getElem?_append_left h0] at ht))
    rw [List.getElem?_append_right (Nat.not_lt.mp h0)] at ht
    by_cases h1 : a - 40 < 40
    · exact Or.inr (Or.inl (List.mem_of_getElem? ((List.getElem?_append_left h1).symm.trans ht)))
    have ht := (List.getElem?_append_right (Nat.not_lt.mp h1)).symm.trans ht
    by_cases h2 : a - 40 - 40 < 40
    · exact Or.inr (Or.inr (Or.inl (List.mem_of_getElem? ((List.getElem?_append_left h2).symm.trans ht))))
    have ht := (List.getElem?_append_right (Nat.not_lt.mp h2)).symm.trans ht
    by_cases h3 : a - 40 - 40 - 40 < 40
    · exact Or.inr (Or.inr (Or.inr (Or.inl (List.mem_of_getElem? ((List.getElem?_append_left h3).symm.trans ht)))))
    have ht := (List.getElem?_append_right (Nat.not_lt.mp h3)).symm.trans ht
    by_cases h4 : a - 40 - 40 - 40 - 40 < 40
    · exact Or.inr (Or.inr (Or.inr (Or.inr (Or.inl (List.mem_of_getElem? ((List.getElem?_append_left h4).symm.trans ht))))))
    have ht := (List.getElem?_append_right (Nat.not_lt.mp h4)).symm.trans ht
    refine Or.inr (Or.inr (Or.inr (Or.inr (Or.inr (List.mem_of_getElem? (i := a - 200) ?_)))))
    rw [List.getElem?_take, if_pos (by omega)]
    rw [show a - 200 = a - 40 - 40 - 40 - 40 - xmt_4.length by show _ = _ - 40; omega]
    exact ht
  rcases hm with h | h | h | h | h | h
  · exact hin _ _ xcw_0 h
  · exact hin _ _ xcw_1 h
  · exact hin _ _ xcw_2 h
  · exact hin _ _ xcw_3 h
  · exact hin _ _ xcw_4 h
  · exact hin _ _ xcw_5 h
end
section
/-! a run of the interpreter is a run of the machine -/
def xcl12 : List String := ["MergeLine$Book", "MergeLine$Cells", "MergeLine$Changes", "MergeLine$Edits", "MergeLine$Hall", "MergeLine$Lane", "MergeLine$Ledger", "MergeLine$Pile", "MergeLine$Tests", "MergeLine", "MergeLineModel", "MergeLineLaw"]
theorem xcl_all : (xmt.all fun t => decide (t.1.cls ∈ xcl12)) = true := by decide +kernel
theorem xfact {a : Nat} {t : xT} (ht : xmt[a]? = some t) : plainName t.1.cls = true ∧ (t.1.cls ≠ "java/lang/invoke/MethodHandle" ∧ t.1.cls ≠ "java/lang/invoke/VarHandle") ∧ Jvm.Cond.initialized t.1.cls ∈ lw_tbl := by
  have h := of_decide_eq_true (List.all_eq_true.mp xcl_all t (List.mem_of_getElem? ht))
  generalize t.1.cls = C at h ⊢
  unfold xcl12 at h
  simp only [List.mem_cons, List.not_mem_nil, or_false] at h
  rcases h with rfl | rfl | rfl | rfl | rfl | rfl | rfl | rfl | rfl | rfl | rfl | rfl
  · exact ⟨by decide, ⟨by decide, by decide⟩, List.mem_of_getElem? (i := 56) (by decide +kernel)⟩
  · exact ⟨by decide, ⟨by decide, by decide⟩, List.mem_of_getElem? (i := 58) (by decide +kernel)⟩
  · exact ⟨by decide, ⟨by decide, by decide⟩, List.mem_of_getElem? (i := 57) (by decide +kernel)⟩
  · exact ⟨by decide, ⟨by decide, by decide⟩, List.mem_of_getElem? (i := 59) (by decide +kernel)⟩
  · exact ⟨by decide, ⟨by decide, by decide⟩, List.mem_of_getElem? (i := 55) (by decide +kernel)⟩
  · exact ⟨by decide, ⟨by decide, by decide⟩, List.mem_of_getElem? (i := 60) (by decide +kernel)⟩
  · exact ⟨by decide, ⟨by decide, by decide⟩, List.mem_of_getElem? (i := 62) (by decide +kernel)⟩
  · exact ⟨by decide, ⟨by decide, by decide⟩, List.mem_of_getElem? (i := 61) (by decide +kernel)⟩
  · exact ⟨by decide, ⟨by decide, by decide⟩, List.mem_of_getElem? (i := 63) (by decide +kernel)⟩
  · exact ⟨by decide, ⟨by decide, by decide⟩, List.mem_of_getElem? (i := 54) (by decide +kernel)⟩
  · exact ⟨by decide, ⟨by decide, by decide⟩, List.mem_of_getElem? (i := 64) (by decide +kernel)⟩
  · exact ⟨by decide, ⟨by decide, by decide⟩, List.mem_of_getElem? (i := 53) (by decide +kernel)⟩
theorem xmck_of {own : String} {rf rl nest a zz n : Nat} {ts : List Nat} (h : xmck own rf rl nest a zz n ts = true) : ∃ t : xT, xmt[a]? = some t ∧ a < 233 ∧ t.2.2.2.2.1 + 1 ≤ rf ∧ 8 + (t.2.2.1 + 11) + t.2.2.2.2.2 ≤ rl ∧ (parseMethodDescriptor t.1.desc).map (fun d => d.parameters.length) = some n ∧ (if nest = 0 then Jvm.Cond.methodLink own zz t.1 else Jvm.Cond.methodLinkNest own zz t.1 "MergeLine") ∈ lw_tbl := by
  unfold xmck at h
  split at h
  · rename_i t ht
    simp only [Bool.and_eq_true, decide_eq_true_eq] at h
    exact ⟨t, ht, h.1.1.1.1, h.1.1.1.2, h.1.1.2, h.1.2, xwat_in h.2⟩
  · cases h
theorem xmy_of {a : Nat} {t : xT} (ht : xmt[a]? = some t) : xmy a = t.1 := by unfold xmy; rw [ht]
theorem xws1 {s : State} {t : xT} {y : MethodName} {B : ByteArray} {n : Nat} {r : Option FieldType} (hT : xTb s) (h : Jvm.Cond.code y B n r ∈ lw_tbl) : ∀ w ∈ [Jvm.Cond.code y B n r], ∀ (a' : Array Value) (U : State), s.WarmedH U.vm → w.before a' U = true := by
  intro w hw a' U hW
  rw [List.mem_singleton.mp hw]
  exact hT.warm hW _ h rfl a'
theorem xcallB {p : Program} {R : Room} {s : State} {m : MethodId} {args : Array Value} {c : Code} {own : String} {cc : ByteArray} {nL : Nat} {D : va_G} {cA : ClassId} {b Ls : Nat} {xs : Nat → Int32} {z : Nat} {σ : xS} {a zz n : Nat} {ts : List Nat} {rf rl : Nat} {t : xT} {q : xR} (C : xC p s m c own cc nL D cA b Ls xs z) (hR : rf ≤ R.frames ∧ rl ≤ R.locals) (hck : xmck own rf rl 0 a zz n ts = true) (ht : xmt[a]? = some t) :
    CallB R s args own zz t.1 t.2.1 t.2.2.1 t.2.2.2.1 [Jvm.Cond.code t.1 t.2.1 t.2.2.1 t.2.2.2.1] (xrm t σ q) (q.2.1.length - σ.1.length) (xsz q.2.1 - xsz σ.1) n := by
  obtain ⟨hx, hb, hml, hown, hT, -⟩ := C
  obtain ⟨t', ht', ha, h1, h2, h3, h4⟩ := xmck_of hck
  cases ht.symm.trans ht'
  rw [if_pos rfl] at h4
  obtain ⟨f1, f2, f3⟩ := xfact ht
  exact ⟨rfl, rfl, Nat.le_trans h1 hR.1, Nat.le_trans h2 hR.2, xws1 (t := t) hT (xcw_at ha ht), List.mem_singleton.mpr rfl, hT _ (xcw_at ha ht) rfl args, hT _ f3 rfl args, f2, fun sig h => by rw [h] at h3; exact (Option.some.inj h3).symm, hT _ h4 rfl args⟩
theorem xcallN {p : Program} {R : Room} {s : State} {m : MethodId} {args : Array Value} {c : Code} {own : String} {cc : ByteArray} {nL : Nat} {D : va_G} {cA : ClassId} {b Ls : Nat} {xs : Nat → Int32} {z : Nat} {σ : xS} {nest a zz n : Nat} {ts : List Nat} {rf rl : Nat} {t : xT} {q : xR} (C : xC p s m c own cc nL D cA b Ls xs z) (hR : rf ≤ R.frames ∧ rl ≤ R.locals) (hck : xmck own rf rl nest a zz n ts = true) (hnest : nest ≠ 0) (ht : xmt[a]? = some t) :
    va_CN R s args own zz t.1 "MergeLine" t.2.1 t.2.2.1 t.2.2.2.1 [Jvm.Cond.code t.1 t.2.1 t.2.2.1 t.2.2.2.1] (xrm t σ q) (q.2.1.length - σ.1.length) (xsz q.2.1 - xsz σ.1) n := by
  obtain ⟨hx, hb, hml, hown, hT, -⟩ := C
  obtain ⟨t', ht', ha, h1, h2, h3, h4⟩ := xmck_of hck
  cases ht.symm.trans ht'
  rw [if_neg hnest] at h4
  obtain ⟨f1, f2, f3⟩ := xfact ht
  exact ⟨⟨rfl, rfl, Nat.le_trans h1 hR.1, Nat.le_trans h2 hR.2, xws1 (t := t) hT (xcw_at ha ht), List.mem_singleton.mpr rfl⟩, hT _ (xcw_at ha ht) rfl args, hT _ f3 rfl args, f2, fun sig h => by rw [h] at h3; exact (Option.some.inj h3).symm, hT _ h4 rfl args⟩
theorem run_V {p : Program} {l : Launch} {e : Env} {R : Room} {s : State} {m : MethodId} {args : Array Value} {below : List Frame} {meth : Method} {c : Code} {own : String} {cc : ByteArray} {nL : Nat} {D : va_G} {cA : ClassId} {b Ls : Nat} {xs : Nat → Int32} {z n0 s0 : Nat} {σ : xS} {pc a w n zz nest h0 : Nat} {ts : List Nat} {rf rl : Nat} {as' T : List xV} {q : xR} (C : xC p s m c own cc nL D cA b Ls xs z) (hR : rf ≤ R.frames ∧ rl ≤ R.locals) (hdg : decode cc pc = .ok (.invokevirtual zz, 3)) (hck : xmck own rf rl nest a zz n ts = true) (hi : xwat ts 1 (.instanceMethod (xmy a)) = true) (hse : xwat ts 2 (.selects (xmy a).cls (xmy a) (xmy a)) = true) (hcl : (match vwCl[w]? with | some q => decide (q.1 = (xmy a).cls) | none => false) = true)
    (hn : as'.length = n) (his : xis σ h0 w = true) (hM : xMet l Ls xs a (.inr (.inr (.inl h0)) :: as') σ q) (hT8 : xle 8 T = true) (hcc : q.2.1.length ≤ R.cells + n0 ∧ xsz q.2.1 ≤ R.slots + s0) (hsz : xle2 σ q.2)
    {ad : Nat → Nat} {H : Heap} {locs : List Loc} {ls : Array Slot} {cells slots : Nat} (hP : va_P D vwCl (xws ad cA σ) H) (hD : va_D (fun q : Nat => z ≤ q) (xws ad cA σ)) (hS : va_S (fun q : Nat => z ≤ q) s.heap H locs) (hls : ls.size = nL) (hso : xso σ) (hSo : ∀ v ∈ as'.reverse ++ .inr (.inr (.inl h0)) :: T, xvo σ.1.length v) (hce : cells + n0 = σ.1.length) (hsl : slots + s0 = xsz σ.1) :
    va_Run p l e R s m args below meth c H locs cells slots (q.2.1.length - σ.1.length) (xsz q.2.1 - xsz σ.1) (F0 m pc ls ((as'.reverse ++ .inr (.inr (.inl h0)) :: T).map (xv ad b))) (T.map (xv ad b)) (xQ D cA z σ.1.length ad q ((Value.ref (ad h0) :: as'.map (xv ad b)).toArray)) (fun k => z ≤ k) := by
  obtain ⟨t, ht, ha, h1, h2, h3, h4⟩ := xmck_of hck
  have C' := C
  obtain ⟨hx, hb, hml, hown, hTb, hK, -⟩ := C
  have hvo : ∀ v ∈ (Sum.inr (Sum.inr (Sum.inl h0)) :: as' : List xV), xvo σ.1.length v := by
    intro v hv
    rcases List.mem_cons.mp hv with h | h
    · exact hSo v (by rw [h]; simp)
    · exact hSo v (by simp [h])
  have hMM := hM t ht D cA b z ad hso hvo
  rw [xmy_of ht] at hi hse hcl
  have hcat : (((T.map (xv ad b))).map fun v => v.category).sum ≤ 8 := xle_cat 8 T hT8
  obtain ⟨c0, hc0⟩ : ∃ ks, σ.1[h0]? = some (Sum.inr (w, ks)) := by
    unfold xis at his
    split at his
    · rename_i c1 ks hks
      rw [beq_iff_eq] at his
      subst his
      exact ⟨ks, hks⟩
    · cases his
  split at hcl
  · rename_i qc hqc
    have hC : qc.1 = t.1.cls := of_decide_eq_true hcl
    have hrecv := va_recv hK hP hqc (xws_at hc0)
    rw [hC] at hrecv
    have hpre : PreV s H t.1.cls (ad h0) (va_Pc ((Sum.inr (Sum.inr (Sum.inl h0)) :: as' : List xV).map (xv ad b)) (xWd D cA b Ls xs z ad σ)) (as'.map (xv ad b)) :=
      ⟨xWd_blind, hrecv, fun U hU hW => ⟨rfl, xWd_at (ad := ad) C' hP hD hS hU hW⟩⟩
    have hst : ((as'.reverse ++ Sum.inr (Sum.inr (Sum.inl h0)) :: T : List xV).map (xv ad b)) = (as'.map (xv ad b)).reverse ++ Value.ref (ad h0) :: T.map (xv ad b) := by
      rw [List.map_append, List.map_reverse, List.map_cons]
      rfl
    have hcm : cells + (q.2.1.length - σ.1.length) ≤ R.cells ∧ slots + (xsz q.2.1 - xsz σ.1) ≤ R.slots := by
      have g1 := hsz.1
      have g2 := hsz.2
      omega
    by_cases hnest : nest = 0
    · subst hnest
      exact va_runV (Ts := xtl) (n := n) ⟨hx, hb, hml, hown, hTb.all args⟩ hMM ⟨xcallB C' hR hck ht, hTb _ (xwat_in hi) rfl args, hTb _ (xwat_in hse) rfl args⟩ hpre rfl (by rw [List.length_map]; exact hn) hls hst (lv_room hcat) hdg hcm
    · exact va_runVN (Ts := xtl) (n := n) ⟨hx, hb, hml, hown, hTb.all args⟩ hMM ⟨xcallN C' hR hck hnest ht, hTb _ (xwat_in hi) rfl args, hTb _ (xwat_in hse) rfl args⟩ hpre rfl (by rw [List.length_map]; exact hn) hls hst (lv_room hcat) hdg hcm
  · cases hcl
theorem run_S {p : Program} {l : Launch} {e : Env} {R : Room} {s : State} {m : MethodId} {args : Array Value} {below : List Frame} {meth : Method} {c : Code} {own : String} {cc : ByteArray} {nL : Nat} {D : va_G} {cA : ClassId} {b Ls : Nat} {xs : Nat → Int32} {z n0 s0 : Nat} {σ : xS} {pc a n zz nest : Nat} {ts : List Nat} {rf rl : Nat} {as' T : List xV} {q : xR} (C : xC p s m c own cc nL D cA b Ls xs z) (hR : rf ≤ R.frames ∧ rl ≤ R.locals) (hdg : decode cc pc = .ok (.invokestatic zz, 3)) (hck : xmck own rf rl nest a zz n ts = true) (hi : xwat ts 1 (.static (xmy a)) = true)
    (hn : as'.length = n) (hM : xMet l Ls xs a as' σ q) (hT8 : xle 8 T = true) (hcc : q.2.1.length ≤ R.cells + n0 ∧ xsz q.2.1 ≤ R.slots + s0) (hsz : xle2 σ q.2)
    {ad : Nat → Nat} {H : Heap} {locs : List Loc} {ls : Array Slot} {cells slots : Nat} (hP : va_P D vwCl (xws ad cA σ) H) (hD : va_D (fun q : Nat => z ≤ q) (xws ad cA σ)) (hS : va_S (fun q : Nat => z ≤ q) s.heap H locs) (hls : ls.size = nL) (hso : xso σ) (hSo : ∀ v ∈ as'.reverse ++ T, xvo σ.1.length v) (hce : cells + n0 = σ.1.length) (hsl : slots + s0 = xsz σ.1) :
    va_Run p l e R s m args below meth c H locs cells slots (q.2.1.length - σ.1.length) (xsz q.2.1 - xsz σ.1) (F0 m pc ls ((as'.reverse ++ T).map (xv ad b))) (T.map (xv ad b)) (xQ D cA z σ.1.length ad q ((as'.map (xv ad b)).toArray)) (fun k => z ≤ k) := by
  obtain ⟨t, ht, ha, h1, h2, h3, h4⟩ := xmck_of hck
  have C' := C
  obtain ⟨hx, hb, hml, hown, hTb, hK, -⟩ := C
  have hvo : ∀ v ∈ as', xvo σ.1.length v := fun v hv => hSo v (by simp [hv])
  have hMM := hM t ht D cA b z ad hso hvo
  rw [xmy_of ht] at hi
  have hcat : (((T.map (xv ad b))).map fun v => v.category).sum ≤ 8 := xle_cat 8 T hT8
  have hpre : PreS s H (va_Pc (as'.map (xv ad b)) (xWd D cA b Ls xs z ad σ)) (as'.map (xv ad b)) :=
    ⟨xWd_blind, fun U hU hW => ⟨rfl, xWd_at (ad := ad) C' hP hD hS hU hW⟩⟩
  have hst : ((as'.reverse ++ T : List xV).map (xv ad b)) = (as'.map (xv ad b)).reverse ++ T.map (xv ad b) := by
    rw [List.map_append, List.map_reverse]
  have hcm : cells + (q.2.1.length - σ.1.length) ≤ R.cells ∧ slots + (xsz q.2.1 - xsz σ.1) ≤ R.slots := by
    have g1 := hsz.1
    have g2 := hsz.2
    omega
  by_cases hnest : nest = 0
  · subst hnest
    exact va_runS (Ts := xtl) (n := n) ⟨hx, hb, hml, hown, hTb.all args⟩ hMM ⟨xcallB C' hR hck ht, hTb _ (xwat_in hi) rfl args⟩ hpre rfl (by rw [List.length_map]; exact hn) hls hst (lv_room hcat) hdg hcm
  · exact va_runSN (Ts := xtl) (n := n) ⟨hx, hb, hml, hown, hTb.all args⟩ hMM ⟨xcallN C' hR hck hnest ht, hTb _ (xwat_in hi) rfl args, trivial⟩ hpre rfl (by rw [List.length_map]; exact hn) hls hst (lv_room hcat) hdg hcm
theorem run_I {p : Program} {l : Launch} {e : Env} {R : Room} {s : State} {m : MethodId} {args : Array Value} {below : List Frame} {meth : Method} {c : Code} {own : String} {cc : ByteArray} {nL : Nat} {D : va_G} {cA : ClassId} {b Ls : Nat} {xs : Nat → Int32} {z n0 s0 : Nat} {σ : xS} {pc a n zz nest h0 : Nat} {ts : List Nat} {rf rl : Nat} {as' T : List xV} {q : xR} (C : xC p s m c own cc nL D cA b Ls xs z) (hR : rf ≤ R.frames ∧ rl ≤ R.locals) (hdg : decode cc pc = .ok (.invokespecial zz, 3)) (hck : xmck own rf rl nest a zz n ts = true) (hi : xwat ts 1 (.instanceMethod (xmy a)) = true) (hin : (xmy a).name = "<init>") (hrt : (match xmt[a]? with | some t => decide (t.2.2.2.1 = none) | none => false) = true)
    (hn : as'.length = n) (hM : xMet l Ls xs a (.inr (.inr (.inl h0)) :: as') σ q) (hT8 : xle 8 T = true) (hcc : q.2.1.length ≤ R.cells + n0 ∧ xsz q.2.1 ≤ R.slots + s0) (hsz : xle2 σ q.2)
    {ad : Nat → Nat} {H : Heap} {locs : List Loc} {ls : Array Slot} {cells slots : Nat} (hP : va_P D vwCl (xws ad cA σ) H) (hD : va_D (fun q : Nat => z ≤ q) (xws ad cA σ)) (hS : va_S (fun q : Nat => z ≤ q) s.heap H locs) (hls : ls.size = nL) (hso : xso σ) (hSo : ∀ v ∈ as'.reverse ++ .inr (.inr (.inl h0)) :: T, xvo σ.1.length v) (hce : cells + n0 = σ.1.length) (hsl : slots + s0 = xsz σ.1) :
    va_Run p l e R s m args below meth c H locs cells slots (q.2.1.length - σ.1.length) (xsz q.2.1 - xsz σ.1) (F0 m pc ls ((as'.reverse ++ .inr (.inr (.inl h0)) :: T).map (xv ad b))) (T.map (xv ad b)) (xQ D cA z σ.1.length ad q ((Value.ref (ad h0) :: as'.map (xv ad b)).toArray)) (fun k => z ≤ k) := by
  obtain ⟨t, ht, ha, h1, h2, h3, h4⟩ := xmck_of hck
  have C' := C
  obtain ⟨hx, hb, hml, hown, hTb, hK, -⟩ := C
  have hvo : ∀ v ∈ (Sum.inr (Sum.inr (Sum.inl h0)) :: as' : List xV), xvo σ.1.length v := by
    intro v hv
    rcases List.mem_cons.mp hv with h | h
    · exact hSo v (by rw [h]; simp)
    · exact hSo v (by simp [h])
  have hMM := hM t ht D cA b z ad hso hvo
  rw [xmy_of ht] at hi hin
  rw [ht] at hrt
  have hrt2 : t.2.2.2.1 = none := of_decide_eq_true hrt
  have hcat : (((T.map (xv ad b))).map fun v => v.category).sum ≤ 8 := xle_cat 8 T hT8
  have hpre : PreS s H (va_Pc ((Sum.inr (Sum.inr (Sum.inl h0)) :: as' : List xV).map (xv ad b)) (xWd D cA b Ls xs z ad σ)) (.ref (ad h0) :: as'.map (xv ad b)) :=
    ⟨xWd_blind, fun U hU hW => ⟨rfl, xWd_at (ad := ad) C' hP hD hS hU hW⟩⟩
  have hst : ((as'.reverse ++ Sum.inr (Sum.inr (Sum.inl h0)) :: T : List xV).map (xv ad b)) = (as'.map (xv ad b)).reverse ++ Value.ref (ad h0) :: T.map (xv ad b) := by
    rw [List.map_append, List.map_reverse, List.map_cons]
    rfl
  have hcm : cells + (q.2.1.length - σ.1.length) ≤ R.cells ∧ slots + (xsz q.2.1 - xsz σ.1) ≤ R.slots := by
    have g1 := hsz.1
    have g2 := hsz.2
    omega
  by_cases hnest : nest = 0
  · subst hnest
    have hB := xcallB (σ := σ) (q := q) (args := args) C' hR hck ht
    rw [hrt2] at hMM hB
    exact va_runI (Ts := xtl) (n := n) ⟨hx, hb, hml, hown, hTb.all args⟩ hMM ⟨hB, hin, hTb _ (xwat_in hi) rfl args⟩ hpre rfl (by rw [List.length_map]; exact hn) hls hst (lv_room hcat) hdg hcm
  · have hB := xcallN (σ := σ) (q := q) (args := args) C' hR hck hnest ht
    rw [hrt2] at hMM hB
    exact va_runIN (Ts := xtl) (n := n) ⟨hx, hb, hml, hown, hTb.all args⟩ hMM ⟨hB, hin, hTb _ (xwat_in hi) rfl args⟩ hpre rfl (by rw [List.length_map]; exact hn) hls hst (lv_room hcat) hdg hcm
end
section
/-- what a method's end owes: an int -/
def xRetI (p : Program) (l : Launch) (e : Env) (R : Room) (s : State) (m : MethodId) (args : Array Value) (below : List Frame) (meth : Method) (c : Code) (Q : State → Prop) (cc : ByteArray) (ret : Option FieldType) (D : va_G) (cA : ClassId) (z n0 s0 : Nat) (ad0 : Nat → Nat) (r : xR) : Prop :=
  ∀ (x : Int) (σ : xS) (ad : Nat → Nat) (H : Heap) (locs : List Loc) (ls : Array Slot) (cells slots pc : Nat), r = (some (.inl x), σ) → decode cc pc = .ok (.ireturn, 1) → (ret = some .boolean ∧ (x = 0 ∨ x = 1)) ∨ ret = some .int → in32 x → va_P D vwCl (xws ad cA σ) H → va_D (fun q : Nat => z ≤ q) (xws ad cA σ) → va_S (fun q : Nat => z ≤ q) s.heap H locs → xso σ → (∀ k : Nat, k < n0 → ad k = ad0 k) → n0 ≤ σ.1.length → cells + n0 = σ.1.length → slots + s0 = xsz σ.1 →
    W p l e R s m args below meth c H locs cells slots Q (F0 m pc ls [.int (Int32.ofInt x)])
def xRetV (p : Program) (l : Launch) (e : Env) (R : Room) (s : State) (m : MethodId) (args : Array Value) (below : List Frame) (meth : Method) (c : Code) (Q : State → Prop) (cc : ByteArray) (ret : Option FieldType) (D : va_G) (cA : ClassId) (z n0 s0 : Nat) (ad0 : Nat → Nat) (r : xR) : Prop :=
  ∀ (σ : xS) (ad : Nat → Nat) (H : Heap) (locs : List Loc) (ls : Array Slot) (cells slots pc : Nat), r = (none, σ) → decode cc pc = .ok (.return_, 1) → ret = none → va_P D vwCl (xws ad cA σ) H → va_D (fun q : Nat => z ≤ q) (xws ad cA σ) → va_S (fun q : Nat => z ≤ q) s.heap H locs → xso σ → (∀ k : Nat, k < n0 → ad k = ad0 k) → n0 ≤ σ.1.length → cells + n0 = σ.1.length → slots + s0 = xsz σ.1 →
    W p l e R s m args below meth c H locs cells slots Q (F0 m pc ls [])
theorem go_if {p : Program} {l : Launch} {e : Env} {R : Room} {s : State} {m : MethodId} {args : Array Value} {below : List Frame} {meth : Method} {c : Code} {Q : State → Prop} {own : String} {cc : ByteArray} {nL : Nat} {D : va_G} {cA : ClassId} {b Ls : Nat} {xs : Nat → Int32} {z n0 s0 : Nat} {ad0 : Nat → Nat} {σ : xS} {L : List xV} {pc cn tgt : Nat} {x y : Int} {T : List xV} (C : xC p s m c own cc nL D cA b Ls xs z) (hdg : decode cc pc = .ok (.if_icmp (xcnd cn) ((tgt : Int) - pc), 3)) {tt ee : Option xR} {r : xR} (h : xif cn x y tt ee = some r) (kt : tt = some r → xGo p l e R s m args below meth c Q nL D cA b z n0 s0 ad0 tgt L T σ) (ke : ee = some r → xGo p l e R s m args below meth c Q nL D cA b z n0 s0 ad0 (pc + 3) L T σ) : xGo p l e R s m args below meth c Q nL D cA b z n0 s0 ad0 pc L (.inl y :: .inl x :: T) σ := by
  obtain ⟨hx, hb, -⟩ := C
  intro ad H locs ls cells slots hP hD hS hl hso hL hSo had hn hce hsl
  simp only [xall_cons] at hSo
  have hy : in32 y := hSo.1
  have hx32 : in32 x := hSo.2.1
  have KT := fun g => kt g ad H locs ls cells slots hP hD hS hl hso hL hSo.2.2 had hn hce hsl
  have KE := fun g => ke g ad H locs ls cells slots hP hD hS hl hso hL hSo.2.2 had hn hce hsl
  have ht : (pc : Int) + ((tgt : Int) - pc) = tgt := by omega
  unfold xif at h
  split at h
  · refine lv_icmp_eq hx hb hdg ht (fun g => ?_) (fun g => ?_)
    · rw [i_eq hx32 hy] at g; rw [if_pos g] at h; exact KT h
    · rw [i_eq hx32 hy] at g; rw [if_neg g] at h; exact KE h
  · refine lv_icmp_ne hx hb hdg ht (fun g => ?_) (fun g => ?_)
    · rw [i_eq hx32 hy] at g; rw [if_neg g] at h; exact KT h
    · rw [i_eq hx32 hy] at g; first | rw [if_pos g] at h | rw [if_pos (Decidable.not_not.mp g)] at h
      exact KE h
  · refine lv_icmp_lt hx hb hdg ht (fun g => ?_) (fun g => ?_)
    · rw [i_lt hx32 hy] at g; rw [if_pos g] at h; exact KT h
    · rw [i_lt hx32 hy] at g; rw [if_neg g] at h; exact KE h
  · refine lv_icmp_ge hx hb hdg ht (fun g => ?_) (fun g => ?_)
    · rw [i_le hy hx32] at g; rw [if_neg (by omega)] at h; exact KT h
    · rw [i_le hy hx32] at g; rw [if_pos (by omega)] at h; exact KE h
  · refine lv_icmp_gt hx hb hdg ht (fun g => ?_) (fun g => ?_)
    · rw [i_lt hy hx32] at g; rw [if_pos g] at h; exact KT h
    · rw [i_lt hy hx32] at g; rw [if_neg g] at h; exact KE h
  · rename_i q0 q1 q2 q3 q4
    have hc : xcnd cn = .le := by
      match cn, q0, q1, q2, q3, q4 with
      | 0, q0, _, _, _, _ => exact (q0 rfl).elim
      | 1, _, q0, _, _, _ => exact (q0 rfl).elim
      | 2, _, _, q0, _, _ => exact (q0 rfl).elim
      | 3, _, _, _, q0, _ => exact (q0 rfl).elim
      | 4, _, _, _, _, q0 => exact (q0 rfl).elim
      | n + 5, _, _, _, _, _ => rfl
    rw [hc] at hdg
    refine lv_icmp_le hx hb hdg ht (fun g => ?_) (fun g => ?_)
    · rw [i_le hx32 hy] at g; rw [if_neg (by omega)] at h; exact KT h
    · rw [i_le hx32 hy] at g; rw [if_pos (by omega)] at h; exact KE h
theorem go_if0 {p : Program} {l : Launch} {e : Env} {R : Room} {s : State} {m : MethodId} {args : Array Value} {below : List Frame} {meth : Method} {c : Code} {Q : State → Prop} {own : String} {cc : ByteArray} {nL : Nat} {D : va_G} {cA : ClassId} {b Ls : Nat} {xs : Nat → Int32} {z n0 s0 : Nat} {ad0 : Nat → Nat} {σ : xS} {L : List xV} {pc cn tgt : Nat} {x : Int} {T : List xV} (C : xC p s m c own cc nL D cA b Ls xs z) (hdg : decode cc pc = .ok (.ifCond (xcnd cn) ((tgt : Int) - pc), 3)) {tt ee : Option xR} {r : xR} (h : xif cn x 0 tt ee = some r) (kt : tt = some r → xGo p l e R s m args below meth c Q nL D cA b z n0 s0 ad0 tgt L T σ) (ke : ee = some r → xGo p l e R s m args below meth c Q nL D cA b z n0 s0 ad0 (pc + 3) L T σ) : xGo p l e R s m args below meth c Q nL D cA b z n0 s0 ad0 pc L (.inl x :: T) σ := by
  obtain ⟨hx, hb, -⟩ := C
  intro ad H locs ls cells slots hP hD hS hl hso hL hSo had hn hce hsl
  simp only [xall_cons] at hSo
  have hy : in32 0 := in32_0
  have hx32 : in32 x := hSo.1
  have KT := fun g => kt g ad H locs ls cells slots hP hD hS hl hso hL hSo.2 had hn hce hsl
  have KE := fun g => ke g ad H locs ls cells slots hP hD hS hl hso hL hSo.2 had hn hce hsl
  have ht : (pc : Int) + ((tgt : Int) - pc) = tgt := by omega
  have e0 : (0 : Int32) = Int32.ofInt 0 := rfl
  unfold xif at h
  split at h
  · refine lv_if_eq hx hb hdg ht (fun g => ?_) (fun g => ?_)
    · rw [e0, i_eq hx32 hy] at g; rw [if_pos g] at h; exact KT h
    · rw [e0, i_eq hx32 hy] at g; rw [if_neg g] at h; exact KE h
  · refine lv_if_ne hx hb hdg ht (fun g => ?_) (fun g => ?_)
    · rw [e0, i_eq hx32 hy] at g; rw [if_neg g] at h; exact KT h
    · rw [e0, i_eq hx32 hy] at g; first | rw [if_pos g] at h | rw [if_pos (Decidable.not_not.mp g)] at h
      exact KE h
  · refine lv_if_lt hx hb hdg ht (fun g => ?_) (fun g => ?_)
    · rw [e0, i_lt hx32 hy] at g; rw [if_pos g] at h; exact KT h
    · rw [e0, i_lt hx32 hy] at g; rw [if_neg g] at h; exact KE h
  · refine lv_if_ge hx hb hdg ht (fun g => ?_) (fun g => ?_)
    · rw [e0, i_le hy hx32] at g; rw [if_neg (by omega)] at h; exact KT h
    · rw [e0, i_le hy hx32] at g; rw [if_pos (by omega)] at h; exact KE h
  · refine lv_if_gt hx hb hdg ht (fun g => ?_) (fun g => ?_)
    · rw [e0, i_lt hy hx32] at g; rw [if_pos g] at h; exact KT h
    · rw [e0, i_lt hy hx32] at g; rw [if_neg g] at h; exact KE h
  · rename_i q0 q1 q2 q3 q4
    have hc : xcnd cn = .le := by
      match cn, q0, q1, q2, q3, q4 with
      | 0, q0, _, _, _, _ => exact (q0 rfl).elim
      | 1, _, q0, _, _, _ => exact (q0 rfl).elim
      | 2, _, _, q0, _, _ => exact (q0 rfl).elim
      | 3, _, _, _, q0, _ => exact (q0 rfl).elim
      | 4, _, _, _, _, q0 => exact (q0 rfl).elim
      | n + 5, _, _, _, _, _ => rfl
    rw [hc] at hdg
    refine lv_if_le hx hb hdg ht (fun g => ?_) (fun g => ?_)
    · rw [e0, i_le hx32 hy] at g; rw [if_neg (by omega)] at h; exact KT h
    · rw [e0, i_le hx32 hy] at g; rw [if_pos (by omega)] at h; exact KE h
theorem xsw_at {x : Int} {J : Nat → Option xR} {d : Nat} {r : xR} : ∀ (ts : List Nat) (lo : Int), xsw x J d lo ts = some r → ((x < lo ∨ lo + ts.length ≤ x) ∧ J d = some r) ∨ (lo ≤ x ∧ x < lo + ts.length ∧ ∃ t, ts[(x - lo).toNat]? = some t ∧ J t = some r) := by
  intro ts
  induction ts with
  | nil =>
    intro lo h
    left
    refine ⟨?_, h⟩
    simp only [List.length_nil]
    omega
  | cons t ts ih =>
    intro lo h
    unfold xsw at h
    simp only [List.length_cons]
    split at h
    · rename_i e
      right
      exact ⟨by omega, by omega, t, by rw [e]; simp, h⟩
    · rename_i e
      rcases ih _ h with ⟨h1, h2⟩ | ⟨h1, h2, t', h3, h4⟩
      · left; exact ⟨by omega, h2⟩
      · right
        refine ⟨by omega, by omega, t', ?_, h4⟩
        rw [show (x - lo).toNat = (x - (lo + 1)).toNat + 1 by omega, List.getElem?_cons_succ]
        exact h3
theorem go_table {p : Program} {l : Launch} {e : Env} {R : Room} {s : State} {m : MethodId} {args : Array Value} {below : List Frame} {meth : Method} {c : Code} {Q : State → Prop} {own : String} {cc : ByteArray} {nL : Nat} {D : va_G} {cA : ClassId} {b Ls : Nat} {xs : Nat → Int32} {z n0 s0 : Nat} {ad0 : Nat → Nat} {σ : xS} {L : List xV} {pc d len : Nat} {lo x : Int} {ts : List Nat} {T : List xV} {pb : Nat → Nat} (C : xC p s m c own cc nL D cA b Ls xs z) (hdg : decode cc pc = .ok (.tableswitch ((pb d : Int) - pc) lo (lo + ts.length - 1) (ts.map fun t => (pb t : Int) - pc).toArray, len)) {J : Nat → Option xR} {r : xR} (h : xsw x J d lo ts = some r) (k : ∀ b', J b' = some r → xGo p l e R s m args below meth c Q nL D cA b z n0 s0 ad0 (pb b') L T σ) : xGo p l e R s m args below meth c Q nL D cA b z n0 s0 ad0 pc L (.inl x :: T) σ := by
  obtain ⟨hx, hb, -⟩ := C
  intro ad H locs ls cells slots hP hD hS hl hso hL hSo had hn hce hsl
  simp only [xall_cons] at hSo
  have hx32 : in32 x := hSo.1
  rcases xsw_at _ _ h with ⟨h1, h2⟩ | ⟨h1, h2, t, h3, h4⟩
  · exact lv_tableOut hx hb hdg (by rw [i_ti hx32]; omega) (tgt := pb d) (by omega) (k d h2 ad H locs ls cells slots hP hD hS hl hso hL hSo.2 had hn hce hsl)
  · refine lv_tableIn hx hb hdg (by rw [i_ti hx32]; omega) (by rw [i_ti hx32]; omega) (off := (pb t : Int) - pc) ?_ (tgt := pb t) (by omega) (k t h4 ad H locs ls cells slots hP hD hS hl hso hL hSo.2 had hn hce hsl)
    rw [i_ti hx32, List.getElem?_toArray, List.getElem?_map, h3]
    rfl
theorem go_goto {p : Program} {l : Launch} {e : Env} {R : Room} {s : State} {m : MethodId} {args : Array Value} {below : List Frame} {meth : Method} {c : Code} {Q : State → Prop} {own : String} {cc : ByteArray} {nL : Nat} {D : va_G} {cA : ClassId} {b Ls : Nat} {xs : Nat → Int32} {z n0 s0 : Nat} {ad0 : Nat → Nat} {σ : xS} {L S : List xV} {pc tgt : Nat} (C : xC p s m c own cc nL D cA b Ls xs z) (hdg : decode cc pc = .ok (.goto ((tgt : Int) - pc), 3)) (k : xGo p l e R s m args below meth c Q nL D cA b z n0 s0 ad0 tgt L S σ) : xGo p l e R s m args below meth c Q nL D cA b z n0 s0 ad0 pc L S σ := by
  obtain ⟨hx, hb, -⟩ := C
  intro ad H locs ls cells slots hP hD hS hl hso hL hSo had hn hce hsl
  exact lv_goto hx hb hdg (by omega) (k ad H locs ls cells slots hP hD hS hl hso hL hSo had hn hce hsl)
theorem xpure_go {p : Program} {l : Launch} {e : Env} {R : Room} {s : State} {m : MethodId} {args : Array Value} {below : List Frame} {meth : Method} {c : Code} {Q : State → Prop} {own : String} {cc : ByteArray} {nL : Nat} {D : va_G} {cA : ClassId} {b Ls : Nat} {xs : Nat → Int32} {z n0 s0 : Nat} {ad0 : Nat → Nat} {σ : xS} {L S : List xV} {rf rl : Nat} {ret : Option FieldType} {ini : Bool} {pb : Nat → Nat} {pc len o w a c' zz : Nat} {v : Int} {ts : List Nat} {q : List xV × List xV} (C : xC p s m c own cc nL D cA b Ls xs z) (ho : o ≤ 25) (hck : xck own cc pb rf rl nL ret ini (pc, len, o, w, a, c', zz, v, ts) = true) (h : xpure o a v L S = some q) (k : xGo p l e R s m args below meth c Q nL D cA b z n0 s0 ad0 (pc + len) q.1 q.2 σ) : xGo p l e R s m args below meth c Q nL D cA b z n0 s0 ad0 pc L S σ := by
  have Cx := C
  obtain ⟨hx, hb, -, hown, hT, -⟩ := C
  unfold xck at hck
  unfold xpure at h
  match o, ho, h, hck with
  | 0, _, h, hck =>
    simp only [Bool.and_eq_true, Bool.or_eq_true, decide_eq_true_eq] at hck
    obtain ⟨hdg, ⟨hv1, hv2⟩, hck⟩ := hck
    have hdg := hdg.resolve_left (by omega)
    cases h
    have hv : in32 v := ⟨hv1, hv2⟩
    match w, hck, hdg with
    | 0, hck, hdg =>
      simp only [decide_eq_true_eq] at hck; subst hck
      exact go_push hv (fun H locs ls cells slots rest K => lv_iconst hx hb hdg rfl K) k
    | 1, hck, hdg =>
      simp only [Bool.and_eq_true, decide_eq_true_eq] at hck; obtain ⟨rfl, h2⟩ := hck
      exact go_push hv (fun H locs ls cells slots rest K => lv_bipush hx hb hdg h2 K) k
    | 2, hck, hdg =>
      simp only [Bool.and_eq_true, decide_eq_true_eq] at hck; obtain ⟨rfl, h2⟩ := hck
      exact go_push hv (fun H locs ls cells slots rest K => lv_sipush hx hb hdg h2 K) k
    | w' + 3, hck, hdg =>
      simp only [Bool.and_eq_true, decide_eq_true_eq] at hck; obtain ⟨rfl, h2⟩ := hck
      have hdg2 : decode cc pc = .ok (.ldc zz, 2) := hdg
      exact go_push hv (fun H locs ls cells slots rest K => lv_ldc hx hb hown (hT _ (xwat_in h2) rfl args) hdg2 K) k
  | 1, _, h, hck =>
    simp only [Bool.and_eq_true, Bool.or_eq_true, decide_eq_true_eq] at hck
    obtain ⟨hdg, hck⟩ := hck
    have hdg := hdg.resolve_left (by omega)
    obtain ⟨x, hx0, h⟩ := Option.bind_eq_some_iff.mp h
    cases h
    match w, hck, hdg with
    | 0, hck, hdg =>
      simp only [decide_eq_true_eq] at hck; subst hck
      exact go_iload Cx hdg (ldI_of hx0) k
    | w' + 1, hck, hdg =>
      simp only [Bool.and_eq_true, decide_eq_true_eq] at hck; obtain ⟨rfl, h2⟩ := hck
      exact go_iload_n Cx hdg h2 (ldI_of hx0) k
  | 2, _, h, hck =>
    simp only [Bool.and_eq_true, Bool.or_eq_true, decide_eq_true_eq] at hck
    obtain ⟨hdg, hck⟩ := hck
    have hdg := hdg.resolve_left (by omega)
    obtain ⟨x, hx0, h⟩ := Option.bind_eq_some_iff.mp h
    cases h
    obtain ⟨hx1, hx2⟩ := ldA_of hx0
    match w, hck, hdg with
    | 0, hck, hdg =>
      simp only [decide_eq_true_eq] at hck; subst hck
      rcases hx2 with ⟨r, rfl⟩ | rfl
      · exact go_aload Cx hdg hx1 k
      · exact go_aloadS Cx hdg hx1 k
    | w' + 1, hck, hdg =>
      simp only [Bool.and_eq_true, decide_eq_true_eq] at hck; obtain ⟨rfl, h2⟩ := hck
      have hdg2 : decode cc pc = .ok (.aload_n (Fin.ofNat 4 a), 1) := hdg
      rcases hx2 with ⟨r, rfl⟩ | rfl
      · exact go_aload_n Cx hdg2 h2 hx1 k
      · exact go_aload_nS Cx hdg2 h2 hx1 k
  | 3, _, h, hck =>
    simp only [Bool.and_eq_true, Bool.or_eq_true, decide_eq_true_eq] at hck
    obtain ⟨hdg, hck⟩ := hck
    have hdg := hdg.resolve_left (by omega)
    obtain ⟨x, hx0, h⟩ := Option.bind_eq_some_iff.mp h
    cases h
    match w, hck, hdg with
    | 0, hck, hdg =>
      simp only [decide_eq_true_eq] at hck; subst hck
      exact go_lload Cx hdg (ldL_of hx0) k
    | w' + 1, hck, hdg =>
      simp only [Bool.and_eq_true, decide_eq_true_eq] at hck; obtain ⟨rfl, h2⟩ := hck
      exact go_lload_n Cx hdg h2 (ldL_of hx0) k
  | 4, _, h, hck =>
    simp only [Bool.and_eq_true, Bool.or_eq_true, decide_eq_true_eq] at hck
    obtain ⟨hdg, hi, hck⟩ := hck
    have hdg := hdg.resolve_left (by omega)
    obtain ⟨q1, hq1, h⟩ := Option.bind_eq_some_iff.mp h
    cases h
    rw [pI_of hq1]
    match w, hck, hdg with
    | 0, hck, hdg =>
      simp only [decide_eq_true_eq] at hck; subst hck
      exact go_istore Cx hdg hi k
    | w' + 1, hck, hdg =>
      simp only [Bool.and_eq_true, decide_eq_true_eq] at hck; obtain ⟨rfl, h2⟩ := hck
      exact go_istore_n Cx hdg h2 hi k
  | 5, _, h, hck =>
    simp only [Bool.and_eq_true, Bool.or_eq_true, decide_eq_true_eq] at hck
    obtain ⟨hdg, hi, hck⟩ := hck
    have hdg := hdg.resolve_left (by omega)
    obtain ⟨q1, hq1, h⟩ := Option.bind_eq_some_iff.mp h
    cases h
    obtain ⟨e1, e2⟩ := pA_of hq1
    rw [e1]
    match w, hck, hdg with
    | 0, hck, hdg => cases hck
    | w' + 1, hck, hdg =>
      simp only [Bool.and_eq_true, decide_eq_true_eq] at hck; obtain ⟨rfl, h2⟩ := hck
      have hdg2 : decode cc pc = .ok (.astore_n (Fin.ofNat 4 a), 1) := hdg
      rcases e2 with ⟨r, e2⟩ | e2
      · rw [e2] at k ⊢
        exact go_astore_n Cx hdg2 h2 hi k
      · rw [e2] at k ⊢
        exact go_astore_nS Cx hdg2 h2 hi k
  | 6, _, h, hck =>
    simp only [Bool.and_eq_true, Bool.or_eq_true, decide_eq_true_eq] at hck
    obtain ⟨hdg, hi, hck⟩ := hck
    have hdg := hdg.resolve_left (by omega)
    obtain ⟨q1, hq1, h⟩ := Option.bind_eq_some_iff.mp h
    cases h
    rw [pL_of hq1]
    match w, hck, hdg with
    | 0, hck, hdg =>
      simp only [decide_eq_true_eq] at hck; subst hck
      exact go_lstore Cx hdg hi k
    | w' + 1, hck, hdg =>
      simp only [Bool.and_eq_true, decide_eq_true_eq] at hck; obtain ⟨rfl, h2⟩ := hck
      exact go_lstore_n Cx hdg h2 hi k
  | 7, _, h, hck =>
    simp only [Bool.and_eq_true, Bool.or_eq_true, decide_eq_true_eq] at hck
    obtain ⟨hdg, hi, rfl⟩ := hck
    have hdg := hdg.resolve_left (by omega)
    obtain ⟨x, hx0, h⟩ := Option.bind_eq_some_iff.mp h
    cases h
    exact go_iinc Cx hdg hi (ldI_of hx0) k
  | 18, _, h, hck =>
    simp only [Bool.and_eq_true, Bool.or_eq_true, decide_eq_true_eq] at hck
    obtain ⟨hdg, hck⟩ := hck
    have hdg := hdg.resolve_left (by omega)
    cases h
    match w, hck, hdg with
    | 0, hck, hdg =>
      simp only [Bool.and_eq_true, Bool.or_eq_true, decide_eq_true_eq] at hck
      obtain ⟨rfl, hv⟩ := hck
      rcases hv with rfl | rfl
      · exact go_pushL in64_0 (fun H locs ls cells slots rest K => lv_lconst hx hb hdg rfl K) k
      · exact go_pushL (by unfold in64; omega) (fun H locs ls cells slots rest K => lv_lconst hx hb hdg rfl K) k
    | w' + 1, hck, hdg =>
      simp only [Bool.and_eq_true, decide_eq_true_eq] at hck
      obtain ⟨⟨⟨rfl, h2⟩, h3⟩, h4⟩ := hck
      have hdg2 : decode cc pc = .ok (.ldc2_w zz, 3) := hdg
      exact go_pushL ⟨h2, h3⟩ (fun H locs ls cells slots rest K => lv_ldc2 hx hb hown (hT _ (xwat_in h4) rfl args) hdg2 K) k
  | 8, _, h, hck =>
    simp only [Bool.and_eq_true, Bool.or_eq_true, decide_eq_true_eq] at hck
    obtain ⟨hdg, rfl, -⟩ := hck
    have hdg := hdg.resolve_left (by omega)
    obtain ⟨q1, hq1, h⟩ := Option.bind_eq_some_iff.mp h
    cases h
    rw [pII_of hq1]
    exact go_iadd Cx hdg k
  | 9, _, h, hck =>
    simp only [Bool.and_eq_true, Bool.or_eq_true, decide_eq_true_eq] at hck
    obtain ⟨hdg, rfl, -⟩ := hck
    have hdg := hdg.resolve_left (by omega)
    obtain ⟨q1, hq1, h⟩ := Option.bind_eq_some_iff.mp h
    cases h
    rw [pII_of hq1]
    exact go_isub Cx hdg k
  | 10, _, h, hck =>
    simp only [Bool.and_eq_true, Bool.or_eq_true, decide_eq_true_eq] at hck
    obtain ⟨hdg, rfl, -⟩ := hck
    have hdg := hdg.resolve_left (by omega)
    obtain ⟨q1, hq1, h⟩ := Option.bind_eq_some_iff.mp h
    cases h
    rw [pII_of hq1]
    exact go_imul Cx hdg k
  | 15, _, h, hck =>
    simp only [Bool.and_eq_true, Bool.or_eq_true, decide_eq_true_eq] at hck
    obtain ⟨hdg, rfl, -⟩ := hck
    have hdg := hdg.resolve_left (by omega)
    obtain ⟨q1, hq1, h⟩ := Option.bind_eq_some_iff.mp h
    cases h
    rw [pII_of hq1]
    exact go_ixor Cx hdg k
  | 16, _, h, hck =>
    simp only [Bool.and_eq_true, Bool.or_eq_true, decide_eq_true_eq] at hck
    obtain ⟨hdg, rfl, -⟩ := hck
    have hdg := hdg.resolve_left (by omega)
    obtain ⟨q1, hq1, h⟩ := Option.bind_eq_some_iff.mp h
    cases h
    rw [pI_of hq1]
    exact go_i2l Cx hdg k
  | 17, _, h, hck =>
    simp only [Bool.and_eq_true, Bool.or_eq_true, decide_eq_true_eq] at hck
    obtain ⟨hdg, rfl, -⟩ := hck
    have hdg := hdg.resolve_left (by omega)
    obtain ⟨q1, hq1, h⟩ := Option.bind_eq_some_iff.mp h
    cases h
    rw [pL_of hq1]
    exact go_l2i Cx hdg k
  | 19, _, h, hck =>
    simp only [Bool.and_eq_true, Bool.or_eq_true, decide_eq_true_eq] at hck
    obtain ⟨hdg, rfl, -⟩ := hck
    have hdg := hdg.resolve_left (by omega)
    obtain ⟨q1, hq1, h⟩ := Option.bind_eq_some_iff.mp h
    cases h
    rw [pLL_of hq1]
    exact go_lcmp Cx hdg k
  | 20, _, h, hck =>
    simp only [Bool.and_eq_true, Bool.or_eq_true, decide_eq_true_eq] at hck
    obtain ⟨hdg, rfl, -⟩ := hck
    have hdg := hdg.resolve_left (by omega)
    obtain ⟨q1, hq1, h⟩ := Option.bind_eq_some_iff.mp h
    cases h
    rw [pLL_of hq1]
    exact go_ladd Cx hdg k
  | 21, _, h, hck =>
    simp only [Bool.and_eq_true, Bool.or_eq_true, decide_eq_true_eq] at hck
    obtain ⟨hdg, rfl, -⟩ := hck
    have hdg := hdg.resolve_left (by omega)
    obtain ⟨q1, hq1, h⟩ := Option.bind_eq_some_iff.mp h
    cases h
    rw [pLL_of hq1]
    exact go_lmul Cx hdg k
  | 23, _, h, hck =>
    simp only [Bool.and_eq_true, Bool.or_eq_true, decide_eq_true_eq] at hck
    obtain ⟨hdg, rfl, -⟩ := hck
    have hdg := hdg.resolve_left (by omega)
    obtain ⟨q1, hq1, h⟩ := Option.bind_eq_some_iff.mp h
    cases h
    obtain ⟨e1, e2⟩ := p1_of hq1
    rw [e1]
    exact go_dup Cx hdg e2 k
  | 24, _, h, hck =>
    simp only [Bool.and_eq_true, Bool.or_eq_true, decide_eq_true_eq] at hck
    obtain ⟨hdg, rfl, -⟩ := hck
    have hdg := hdg.resolve_left (by omega)
    obtain ⟨q1, hq1, h⟩ := Option.bind_eq_some_iff.mp h
    obtain ⟨q2, hq2, h⟩ := Option.bind_eq_some_iff.mp h
    cases h
    obtain ⟨e1, e2⟩ := p1_of hq1
    obtain ⟨e3, e4⟩ := p1_of hq2
    rw [e1, e3]
    exact go_dup2 Cx hdg e2 e4 k
  | 25, _, h, hck =>
    simp only [Bool.and_eq_true, Bool.or_eq_true, decide_eq_true_eq] at hck
    obtain ⟨hdg, rfl, -⟩ := hck
    have hdg := hdg.resolve_left (by omega)
    obtain ⟨q1, hq1, h⟩ := Option.bind_eq_some_iff.mp h
    cases h
    obtain ⟨e1, e2⟩ := p1_of hq1
    rw [e1]
    exact go_pop Cx hdg e2 k
end
section
theorem call_split {n : Nat} {S as' : List xV} {h0 : Nat} {q : List xV × List xV} (hq : xtake n [] S = some q) (e : q.1 = .inr (.inr (.inl h0)) :: as') (hn : 0 < n) : S = as'.reverse ++ .inr (.inr (.inl h0)) :: q.2 ∧ as'.length = n - 1 := by
  obtain ⟨T, h1, h2, h3⟩ := xtake_of _ _ _ _ hq
  rw [List.append_nil] at h2
  have h4 : T = q.1.reverse := by rw [h2, List.reverse_reverse]
  rw [e] at h4
  subst h4
  refine ⟨by rw [h1]; simp, ?_⟩
  simp at h3
  omega
theorem call_all {n : Nat} {S : List xV} {q : List xV × List xV} (hq : xtake n [] S = some q) : S = q.1.reverse ++ q.2 ∧ q.1.length = n := by
  obtain ⟨T, h1, h2, h3⟩ := xtake_of _ _ _ _ hq
  rw [List.append_nil] at h2
  have h4 : T = q.1.reverse := by rw [h2, List.reverse_reverse]
  exact ⟨by rw [h1, ← h4], by rw [h2, List.length_reverse]; exact h3⟩
theorem xstep_go {p : Program} {l : Launch} {e : Env} {R : Room} {s : State} {m : MethodId} {args : Array Value} {below : List Frame} {meth : Method} {c : Code} {Q : State → Prop} {own : String} {cc : ByteArray} {nL : Nat} {D : va_G} {cA : ClassId} {b Ls : Nat} {xs : Nat → Int32} {z n0 s0 : Nat} {ad0 : Nat → Nat} {rf rl : Nat} {ret : Option FieldType} {ini : Bool} {pb : Nat → Nat} {env : Nat → List xV → xS → Option xR} {j : Nat → List xV → List xV → xS → Option xR} {ei : xI} {L S : List xV} {σ : xS} {k : List xV → List xV → xS → Option xR} {r : xR} (C : xC p s m c own cc nL D cA b Ls xs z) (hck : xck own cc pb rf rl nL ret ini ei = true) (hini : ini = true → meth.name = "<init>") (hR : rf ≤ R.frames ∧ rl ≤ R.locals)
    (hj : ∀ b' L' S' σ', j b' L' S' σ' = some r → xGo p l e R s m args below meth c Q nL D cA b z n0 s0 ad0 (pb b') L' S' σ') (hk : ∀ L' S' σ', k L' S' σ' = some r → xGo p l e R s m args below meth c Q nL D cA b z n0 s0 ad0 (ei.1 + ei.2.1) L' S' σ') (hsz : ∀ L' S' σ', k L' S' σ' = some r → xle2 σ' r.2) (hE : ∀ a as σ q, a < 233 → env a as σ = some q → xMet l Ls xs a as σ q ∧ xle2 σ q.2)
    (hcap : r.2.1.length ≤ R.cells + n0 ∧ xsz r.2.1 ≤ R.slots + s0) (hrI : xRetI p l e R s m args below meth c Q cc ret D cA z n0 s0 ad0 r) (hrV : xRetV p l e R s m args below meth c Q cc ret D cA z n0 s0 ad0 r) (h : xstep (Ls, fun i => (xs i).toInt) env j ei L S σ k = some r) : xGo p l e R s m args below meth c Q nL D cA b z n0 s0 ad0 ei.1 L S σ := by
  obtain ⟨pc, len, o, w, a, c', zz, v, ts⟩ := ei
  have Cx := C
  unfold xstep at h
  dsimp only at h hk ⊢
  split at h
  · -- goto
    unfold xck at hck
    simp only [Bool.and_eq_true, Bool.or_eq_true, decide_eq_true_eq] at hck
    have hdg := hck.1.resolve_left (by omega)
    have hl := hck.2
    subst hl
    exact go_goto Cx hdg (hj _ _ _ _ h)
  · -- fall
    unfold xck at hck
    simp only [Bool.and_eq_true, Bool.or_eq_true, decide_eq_true_eq] at hck
    have h2 := hj _ _ _ _ h
    rw [hck.2.2] at h2
    exact h2
  · -- two ints compared
    unfold xck at hck
    simp only [Bool.and_eq_true, Bool.or_eq_true, decide_eq_true_eq] at hck
    have hdg := hck.1.resolve_left (by omega)
    have hl := hck.2
    subst hl
    obtain ⟨q, hq, h⟩ := Option.bind_eq_some_iff.mp h
    rw [pII_of hq]
    exact go_if Cx hdg h (fun g => hj _ _ _ _ g) (fun g => hk _ _ _ g)
  · unfold xck at hck
    simp only [Bool.and_eq_true, Bool.or_eq_true, decide_eq_true_eq] at hck
    have hdg := hck.1.resolve_left (by omega)
    have hl := hck.2
    subst hl
    obtain ⟨q, hq, h⟩ := Option.bind_eq_some_iff.mp h
    rw [pI_of hq]
    exact go_if0 Cx hdg h (fun g => hj _ _ _ _ g) (fun g => hk _ _ _ g)
  · unfold xck at hck
    simp only [Bool.and_eq_true, Bool.or_eq_true, decide_eq_true_eq] at hck
    have hdg := hck.1.resolve_left (by omega)
    obtain ⟨q, hq, h⟩ := Option.bind_eq_some_iff.mp h
    rw [pI_of hq]
    exact go_table Cx hdg h (fun b' g => hj _ _ _ _ g)
  · -- 11
    unfold xck at hck
    simp only [Bool.and_eq_true, Bool.or_eq_true, decide_eq_true_eq] at hck
    obtain ⟨hdg, rfl, -⟩ := hck
    have hdg := hdg.resolve_left (by omega)
    obtain ⟨q, hq, h⟩ := Option.bind_eq_some_iff.mp h
    obtain ⟨hc, h⟩ := ite_or h
    rw [pII_of hq]
    exact go_idiv Cx hdg hc (hk _ _ _ h)
  · -- 12
    unfold xck at hck
    simp only [Bool.and_eq_true, Bool.or_eq_true, decide_eq_true_eq] at hck
    obtain ⟨hdg, rfl, -⟩ := hck
    have hdg := hdg.resolve_left (by omega)
    obtain ⟨q, hq, h⟩ := Option.bind_eq_some_iff.mp h
    obtain ⟨hc, h⟩ := ite_or h
    rw [pII_of hq]
    exact go_irem Cx hdg hc (hk _ _ _ h)
  · -- 13
    unfold xck at hck
    simp only [Bool.and_eq_true, Bool.or_eq_true, decide_eq_true_eq] at hck
    obtain ⟨hdg, rfl, -⟩ := hck
    have hdg := hdg.resolve_left (by omega)
    obtain ⟨q, hq, h⟩ := Option.bind_eq_some_iff.mp h
    obtain ⟨hc, h⟩ := ite_or h
    rw [pII_of hq, hc]
    exact go_iushr Cx hdg (hk _ _ _ h)
  · -- 14
    unfold xck at hck
    simp only [Bool.and_eq_true, Bool.or_eq_true, decide_eq_true_eq] at hck
    obtain ⟨hdg, rfl, -⟩ := hck
    have hdg := hdg.resolve_left (by omega)
    obtain ⟨q, hq, h⟩ := Option.bind_eq_some_iff.mp h
    obtain ⟨hc, h⟩ := ite_or h
    rw [pII_of hq, hc]
    exact go_iand Cx hdg (hk _ _ _ h)
  · -- 22
    unfold xck at hck
    simp only [Bool.and_eq_true, Bool.or_eq_true, decide_eq_true_eq] at hck
    obtain ⟨hdg, rfl, -⟩ := hck
    have hdg := hdg.resolve_left (by omega)
    obtain ⟨q, hq, h⟩ := Option.bind_eq_some_iff.mp h
    obtain ⟨hc, h⟩ := ite_or h
    rw [pLL_of hq]
    exact go_lrem Cx hdg hc (hk _ _ _ h)
  · -- 32 load
    unfold xck at hck
    simp only [Bool.and_eq_true, Bool.or_eq_true, decide_eq_true_eq] at hck
    have hdg := hck.1.resolve_left (by omega)
    have hl := hck.2.1
    subst hl
    obtain ⟨q, hq, h⟩ := Option.bind_eq_some_iff.mp h
    obtain ⟨n, hn, h⟩ := Option.bind_eq_some_iff.mp h
    obtain ⟨g2, g3⟩ := ite_or h
    obtain ⟨e1, e2⟩ := pIA_of hq
    rw [e1]
    rcases e2 with ⟨r0, e2⟩ | e2
    · rw [e2] at hn g3 ⊢
      exact go_iald Cx hdg (xln_of hn) g2 (hk _ _ _ g3)
    · rw [e2] at hn g3 ⊢
      have e3 : Ls = n := Option.some.inj hn
      rw [← e3] at g2
      exact go_sald Cx hdg g2 (hk _ _ _ g3)
  · -- 33 store
    unfold xck at hck
    simp only [Bool.and_eq_true, Bool.or_eq_true, decide_eq_true_eq] at hck
    have hdg := hck.1.resolve_left (by omega)
    have hl := hck.2.1
    subst hl
    obtain ⟨q1, hq1, h⟩ := Option.bind_eq_some_iff.mp h
    obtain ⟨q2, hq2, h⟩ := Option.bind_eq_some_iff.mp h
    obtain ⟨n, hn, h⟩ := Option.bind_eq_some_iff.mp h
    obtain ⟨g2, h⟩ := ite_or h
    rw [pI_of hq1, pIR_of hq2]
    exact go_iast Cx hdg (xln_of hn) g2 (hk _ _ _ h)
  · -- 36
    unfold xck at hck
    simp only [Bool.and_eq_true, Bool.or_eq_true, decide_eq_true_eq] at hck
    have hdg := hck.1.resolve_left (by omega)
    obtain ⟨⟨⟨hl, hf⟩, hfi⟩, hw⟩ := hck.2
    subst hl
    obtain ⟨q1, hq1, h⟩ := Option.bind_eq_some_iff.mp h
    obtain ⟨u, hu, h⟩ := Option.bind_eq_some_iff.mp h
    obtain ⟨ks, g1, g2⟩ := xpi_of hu
    rw [pIR_of hq1]
    split at h
    · exact go_putI Cx hdg hf hfi hw g1 g2 (fun e => absurd e (by decide)) (hk _ _ _ h)
    · obtain ⟨g3, h⟩ := ite_or h
      exact go_putI Cx hdg hf hfi hw g1 g2 (fun _ => g3) (hk _ _ _ h)
  · -- 44 arraycopy
    unfold xck at hck
    simp only [Bool.and_eq_true, Bool.or_eq_true, decide_eq_true_eq] at hck
    have hdg := hck.1.resolve_left (by omega)
    obtain ⟨⟨⟨hl, hw⟩, h1⟩, h2⟩ := hck.2
    subst hl
    obtain ⟨q1, hq1, h⟩ := Option.bind_eq_some_iff.mp h
    obtain ⟨q2, hq2, h⟩ := Option.bind_eq_some_iff.mp h
    obtain ⟨q3, hq3, h⟩ := Option.bind_eq_some_iff.mp h
    obtain ⟨S', hs, h⟩ := Option.bind_eq_some_iff.mp h
    obtain ⟨la, hla, h⟩ := Option.bind_eq_some_iff.mp h
    obtain ⟨ld, hld, h⟩ := Option.bind_eq_some_iff.mp h
    obtain ⟨g3, h⟩ := ite_or h
    obtain ⟨rfl, h8⟩ := st8_of hs
    rw [pI_of hq1, pIR_of hq2, pIR_of hq3]
    exact go_acopy Cx hdg hw ⟨Nat.le_trans h1 hR.1, Nat.le_trans h2 hR.2⟩ h8 (xln_of hla) (xln_of hld) g3 (hk _ _ _ h)
  · -- 31 length
    unfold xck at hck
    simp only [Bool.and_eq_true, Bool.or_eq_true, decide_eq_true_eq] at hck
    have hdg := hck.1.resolve_left (by omega)
    have hl := hck.2.1
    subst hl
    obtain ⟨q, hq, h⟩ := Option.bind_eq_some_iff.mp h
    unfold xmemo at hq
    obtain ⟨q1, hq1, hq⟩ := Option.bind_eq_some_iff.mp hq
    obtain ⟨n, hn, hq⟩ := Option.bind_eq_some_iff.mp hq
    obtain ⟨e1, e2⟩ := pA_of hq1
    rw [e1]
    rcases e2 with ⟨r0, e2⟩ | e2
    · rw [e2] at hn ⊢
      cases hq
      exact go_alen Cx hdg (xln_of hn) (hk _ _ _ h)
    · rw [e2] at hn ⊢
      cases hn
      cases hq
      exact go_slen Cx hdg (hk _ _ _ h)
  · -- 34
    unfold xck at hck
    simp only [Bool.and_eq_true, Bool.or_eq_true, decide_eq_true_eq] at hck
    have hdg := hck.1.resolve_left (by omega)
    obtain ⟨hl, hf⟩ := hck.2
    subst hl
    obtain ⟨q, hq, h⟩ := Option.bind_eq_some_iff.mp h
    unfold xmemo at hq
    obtain ⟨q1, hq1, hq⟩ := Option.bind_eq_some_iff.mp hq
    obtain ⟨x, hx, hq⟩ := Option.bind_eq_some_iff.mp hq
    obtain ⟨ks, g1, g2, rfl⟩ := xgi_of hx
    cases hq
    rw [pR_of hq1]
    exact go_getf (v := .inl (σ.2 q1.1 c')) Cx hdg hf g1 g2 (fun ad => rfl) (fun hso => hso.1 _ _) (hk _ _ _ h)
  · -- 35
    unfold xck at hck
    simp only [Bool.and_eq_true, Bool.or_eq_true, decide_eq_true_eq] at hck
    have hdg := hck.1.resolve_left (by omega)
    obtain ⟨hl, hf⟩ := hck.2
    subst hl
    obtain ⟨q, hq, h⟩ := Option.bind_eq_some_iff.mp h
    unfold xmemo at hq
    obtain ⟨q1, hq1, hq⟩ := Option.bind_eq_some_iff.mp hq
    obtain ⟨x, hx, hq⟩ := Option.bind_eq_some_iff.mp hq
    obtain ⟨ks, g1, g2⟩ := xgr_of hx
    cases hq
    rw [pR_of hq1]
    exact go_getf (v := .inr (.inr (.inl x))) Cx hdg hf g1 g2 (fun ad => rfl) (fun hso => hso.2.2 _ _ _ g1 _ (List.mem_of_getElem? g2)) (hk _ _ _ h)
  · -- 37
    unfold xck at hck
    simp only [Bool.and_eq_true, Bool.or_eq_true, decide_eq_true_eq] at hck
    have hdg := hck.1.resolve_left (by omega)
    obtain ⟨⟨⟨⟨⟨hl, hf⟩, hfi⟩, hrf⟩, how⟩, hin⟩ := hck.2
    subst hl
    obtain ⟨q, hq, h⟩ := Option.bind_eq_some_iff.mp h
    unfold xmemo at hq
    obtain ⟨q1, hq1, hq⟩ := Option.bind_eq_some_iff.mp hq
    obtain ⟨σ', hs, hq⟩ := Option.bind_eq_some_iff.mp hq
    obtain ⟨ks, o2, g1, g2, rfl⟩ := xpr_of hs
    cases hq
    rw [pRR_of hq1]
    exact go_putR Cx (hini hin) hdg hf hfi hrf how g1 g2 (hk _ _ _ h)
  · -- 38 new
    unfold xck at hck
    simp only [Bool.and_eq_true, Bool.or_eq_true, decide_eq_true_eq] at hck
    have hdg := hck.1.resolve_left (by omega)
    obtain ⟨hl, hf⟩ := hck.2
    subst hl
    obtain ⟨q, hq, h⟩ := Option.bind_eq_some_iff.mp h
    cases hq
    have g := hsz _ _ _ h
    have g1 := g.1
    have g2 := g.2
    have e1 : (xnw σ a).1.length = σ.1.length + 1 := by unfold xnw; simp
    have e2 : xsz (xnw σ a).1 = xsz σ.1 + (xbk a).length := xsz_push _ _
    dsimp only at g1 g2
    exact go_new Cx hdg hf (by omega) (by omega) (hk _ _ _ h)
  · -- 39 newarray
    unfold xck at hck
    simp only [Bool.and_eq_true, Bool.or_eq_true, decide_eq_true_eq] at hck
    have hdg := hck.1.resolve_left (by omega)
    have hl := hck.2
    subst hl
    obtain ⟨q, hq, h⟩ := Option.bind_eq_some_iff.mp h
    unfold xmemo at hq
    obtain ⟨q1, hq1, hq⟩ := Option.bind_eq_some_iff.mp hq
    obtain ⟨σ', hs, hq⟩ := Option.bind_eq_some_iff.mp hq
    obtain ⟨g0, rfl⟩ := xna_of hs
    cases hq
    have g := hsz _ _ _ h
    have g1 := g.1
    have g2 := g.2
    have e1 : (xnas σ q1.1.toNat).1.length = σ.1.length + 1 := by unfold xnas; simp
    have e2 : xsz (xnas σ q1.1.toNat).1 = xsz σ.1 + q1.1.toNat := xsz_push _ _
    dsimp only at g1 g2
    rw [pI_of hq1]
    exact go_newa Cx hdg g0 (by omega) (by omega) (hk _ _ _ h)
  · -- 43 Object()
    unfold xck at hck
    simp only [Bool.and_eq_true, Bool.or_eq_true, decide_eq_true_eq] at hck
    have hdg := hck.1.resolve_left (by omega)
    obtain ⟨⟨⟨hl, hw⟩, h1⟩, h2⟩ := hck.2
    subst hl
    obtain ⟨q, hq, h⟩ := Option.bind_eq_some_iff.mp h
    unfold xmemo at hq
    obtain ⟨q1, hq1, hq⟩ := Option.bind_eq_some_iff.mp hq
    obtain ⟨S', hs, hq⟩ := Option.bind_eq_some_iff.mp hq
    obtain ⟨rfl, h8⟩ := st8_of hs
    cases hq
    rw [pR_of hq1]
    exact go_oinit Cx hdg hw ⟨Nat.le_trans h1 hR.1, Nat.le_trans h2 hR.2⟩ h8 (hk _ _ _ h)
  · -- 45 min
    unfold xck at hck
    simp only [Bool.and_eq_true, Bool.or_eq_true, decide_eq_true_eq] at hck
    have hdg := hck.1.resolve_left (by omega)
    obtain ⟨⟨⟨hl, hw⟩, h1⟩, h2⟩ := hck.2
    subst hl
    obtain ⟨q, hq, h⟩ := Option.bind_eq_some_iff.mp h
    unfold xmemo at hq
    obtain ⟨q1, hq1, hq⟩ := Option.bind_eq_some_iff.mp hq
    obtain ⟨S', hs, hq⟩ := Option.bind_eq_some_iff.mp hq
    obtain ⟨rfl, h8⟩ := st8_of hs
    cases hq
    have g := hsz _ _ _ h
    dsimp only at g
    rw [pII_of hq1]
    exact go_mmin Cx hdg hw ⟨Nat.le_trans h1 hR.1, Nat.le_trans h2 hR.2⟩ h8 ⟨Nat.le_trans g.1 hcap.1, Nat.le_trans g.2 hcap.2⟩ (hk _ _ _ h)
  · -- 40 virtual, int
    unfold xck at hck
    simp only [Bool.and_eq_true, Bool.or_eq_true, decide_eq_true_eq] at hck
    have hdg := hck.1.resolve_left (by omega)
    obtain ⟨⟨⟨⟨⟨hl, hc0⟩, hm⟩, hi⟩, hse⟩, hcl⟩ := hck.2
    subst hl
    obtain ⟨q, hq, h⟩ := Option.bind_eq_some_iff.mp h
    obtain ⟨S', hs, h⟩ := Option.bind_eq_some_iff.mp h
    obtain ⟨rfl, h8⟩ := st8_of hs
    obtain ⟨x, σ', hc, h⟩ := xcI_of h
    obtain ⟨h0, as', e1, e2, e3⟩ := xcv_of hc
    obtain ⟨e4, e5⟩ := call_split hq e1 hc0
    obtain ⟨t0, -, ha, -⟩ := xmck_of hm
    obtain ⟨hM, hs2⟩ := hE _ _ _ _ ha e3
    have g := hsz _ _ _ h
    rw [e1] at hM
    rw [e4]
    intro ad H locs ls cells slots hP hD hS hl hso hL hSo had hn hce hsl
    refine go_afterI (q := (some (.inl x), σ')) rfl hs2 rfl rfl hS hl hL (fun v hv => hSo v (by simp [hv])) had hn hce hsl (run_V (n0 := n0) (s0 := s0) Cx hR hdg hm hi hse hcl e5 e2 hM h8 ⟨Nat.le_trans g.1 hcap.1, Nat.le_trans g.2 hcap.2⟩ hs2 hP hD hS hl.1 hso hSo hce hsl) (hk _ _ _ h)
  · -- 41 virtual, void
    unfold xck at hck
    simp only [Bool.and_eq_true, Bool.or_eq_true, decide_eq_true_eq] at hck
    have hdg := hck.1.resolve_left (by omega)
    obtain ⟨⟨⟨⟨⟨hl, hc0⟩, hm⟩, hi⟩, hse⟩, hcl⟩ := hck.2
    subst hl
    obtain ⟨q, hq, h⟩ := Option.bind_eq_some_iff.mp h
    obtain ⟨S', hs, h⟩ := Option.bind_eq_some_iff.mp h
    obtain ⟨rfl, h8⟩ := st8_of hs
    obtain ⟨σ', hc, h⟩ := xcV_of h
    obtain ⟨h0, as', e1, e2, e3⟩ := xcv_of hc
    obtain ⟨e4, e5⟩ := call_split hq e1 hc0
    obtain ⟨t0, -, ha, -⟩ := xmck_of hm
    obtain ⟨hM, hs2⟩ := hE _ _ _ _ ha e3
    have g := hsz _ _ _ h
    rw [e1] at hM
    rw [e4]
    intro ad H locs ls cells slots hP hD hS hl hso hL hSo had hn hce hsl
    refine go_afterV (q := (none, σ')) rfl hs2 rfl rfl hS hl hL (fun v hv => hSo v (by simp [hv])) had hn hce hsl (run_V (n0 := n0) (s0 := s0) Cx hR hdg hm hi hse hcl e5 e2 hM h8 ⟨Nat.le_trans g.1 hcap.1, Nat.le_trans g.2 hcap.2⟩ hs2 hP hD hS hl.1 hso hSo hce hsl) (hk _ _ _ h)
  · -- 42 static, int
    unfold xck at hck
    simp only [Bool.and_eq_true, Bool.or_eq_true, decide_eq_true_eq] at hck
    have hdg := hck.1.resolve_left (by omega)
    obtain ⟨⟨hl, hm⟩, hi⟩ := hck.2
    subst hl
    obtain ⟨q, hq, h⟩ := Option.bind_eq_some_iff.mp h
    obtain ⟨S', hs, h⟩ := Option.bind_eq_some_iff.mp h
    obtain ⟨rfl, h8⟩ := st8_of hs
    obtain ⟨x, σ', e3, h⟩ := xcI_of h
    obtain ⟨e4, e5⟩ := call_all hq
    obtain ⟨t0, -, ha, -⟩ := xmck_of hm
    obtain ⟨hM, hs2⟩ := hE _ _ _ _ ha e3
    have g := hsz _ _ _ h
    rw [e4]
    intro ad H locs ls cells slots hP hD hS hl hso hL hSo had hn hce hsl
    refine go_afterI (q := (some (.inl x), σ')) rfl hs2 rfl rfl hS hl hL (fun v hv => hSo v (by simp [hv])) had hn hce hsl (run_S (n0 := n0) (s0 := s0) Cx hR hdg hm hi e5 hM h8 ⟨Nat.le_trans g.1 hcap.1, Nat.le_trans g.2 hcap.2⟩ hs2 hP hD hS hl.1 hso hSo hce hsl) (hk _ _ _ h)
  · -- 48 constructor
    unfold xck at hck
    simp only [Bool.and_eq_true, Bool.or_eq_true, decide_eq_true_eq] at hck
    have hdg := hck.1.resolve_left (by omega)
    obtain ⟨⟨⟨⟨⟨hl, hc0⟩, hm⟩, hi⟩, hin⟩, hrt⟩ := hck.2
    subst hl
    obtain ⟨q, hq, h⟩ := Option.bind_eq_some_iff.mp h
    obtain ⟨S', hs, h⟩ := Option.bind_eq_some_iff.mp h
    obtain ⟨rfl, h8⟩ := st8_of hs
    obtain ⟨σ', hc, h⟩ := xcV_of h
    obtain ⟨h0, as', e1, e3⟩ := xci_of hc
    obtain ⟨e4, e5⟩ := call_split hq e1 hc0
    obtain ⟨t0, -, ha, -⟩ := xmck_of hm
    obtain ⟨hM, hs2⟩ := hE _ _ _ _ ha e3
    have g := hsz _ _ _ h
    rw [e1] at hM
    rw [e4]
    intro ad H locs ls cells slots hP hD hS hl hso hL hSo had hn hce hsl
    refine go_afterV (q := (none, σ')) rfl hs2 rfl rfl hS hl hL (fun v hv => hSo v (by simp [hv])) had hn hce hsl (run_I (n0 := n0) (s0 := s0) Cx hR hdg hm hi hin hrt e5 hM h8 ⟨Nat.le_trans g.1 hcap.1, Nat.le_trans g.2 hcap.2⟩ hs2 hP hD hS hl.1 hso hSo hce hsl) (hk _ _ _ h)
  · -- 46 ireturn
    unfold xck at hck
    simp only [Bool.and_eq_true, Bool.or_eq_true, decide_eq_true_eq] at hck
    have hdg := hck.1.resolve_left (by omega)
    obtain ⟨hl, ha⟩ := hck.2
    subst hl
    obtain ⟨x, hx, h⟩ := Option.bind_eq_some_iff.mp h
    rw [pI1_of hx]
    intro ad H locs ls cells slots hP hD hS hl hso hL hSo had hn hce hsl
    have hx32 : in32 x := hSo (.inl x) (by simp)
    split at h
    · cases h
      refine hrI x σ ad H locs ls cells slots pc rfl hdg ?_ hx32 hP hD hS hso had hn hce hsl
      rcases ha with ⟨h1, h2⟩ | ⟨h1, h2⟩
      · exact absurd h1 (by decide)
      · exact Or.inr h2
    · rename_i ha0
      obtain ⟨hb, h⟩ := ite_or h
      cases h
      refine hrI x σ ad H locs ls cells slots pc rfl hdg ?_ hx32 hP hD hS hso had hn hce hsl
      rcases ha with ⟨h1, h2⟩ | ⟨h1, h2⟩
      · exact Or.inl ⟨h2, hb⟩
      · exact Or.inr h2
  · -- 47 return
    unfold xck at hck
    simp only [Bool.and_eq_true, Bool.or_eq_true, decide_eq_true_eq] at hck
    have hdg := hck.1.resolve_left (by omega)
    obtain ⟨hl, ha⟩ := hck.2
    subst hl
    obtain ⟨x, hx, h⟩ := Option.bind_eq_some_iff.mp h
    cases h
    rw [p0_of hx]
    intro ad H locs ls cells slots hP hD hS hl hso hL hSo had hn hce hsl
    exact hrV σ ad H locs ls cells slots pc rfl hdg ha hP hD hS hso had hn hce hsl
  · -- pure
    obtain ⟨q, hq, h⟩ := Option.bind_eq_some_iff.mp h
    have ho : o ≤ 25 := by
      unfold xpure at hq
      split at hq <;> first | omega | (cases hq; done)
    exact xpure_go Cx ho hck hq (hk _ _ _ h)
theorem xblk_go {p : Program} {l : Launch} {e : Env} {R : Room} {s : State} {m : MethodId} {args : Array Value} {below : List Frame} {meth : Method} {c : Code} {Q : State → Prop} {own : String} {cc : ByteArray} {nL : Nat} {D : va_G} {cA : ClassId} {b Ls : Nat} {xs : Nat → Int32} {z n0 s0 : Nat} {ad0 : Nat → Nat} {rf rl : Nat} {ret : Option FieldType} {ini : Bool} {pb : Nat → Nat} {env : Nat → List xV → xS → Option xR} {j : Nat → List xV → List xV → xS → Option xR} {r : xR} (C : xC p s m c own cc nL D cA b Ls xs z) (hini : ini = true → meth.name = "<init>") (hR : rf ≤ R.frames ∧ rl ≤ R.locals)
    (hj : ∀ b' L' S' σ', j b' L' S' σ' = some r → xGo p l e R s m args below meth c Q nL D cA b z n0 s0 ad0 (pb b') L' S' σ') (hjsz : ∀ b' L' S' σ', j b' L' S' σ' = some r → xle2 σ' r.2) (hEs : ∀ a as σ q, env a as σ = some q → xle2 σ q.2) (hE : ∀ a as σ q, a < 233 → env a as σ = some q → xMet l Ls xs a as σ q)
    (hcap : r.2.1.length ≤ R.cells + n0 ∧ xsz r.2.1 ≤ R.slots + s0) (hrI : xRetI p l e R s m args below meth c Q cc ret D cA z n0 s0 ad0 r) (hrV : xRetV p l e R s m args below meth c Q cc ret D cA z n0 s0 ad0 r) : ∀ (es : List xI) (pc : Nat), xchain own cc pb rf rl nL ret ini pc es = true → ∀ (L S : List xV) (σ : xS), xblk (Ls, fun i => (xs i).toInt) env j es L S σ = some r → xGo p l e R s m args below meth c Q nL D cA b z n0 s0 ad0 pc L S σ := by
  intro es
  induction es with
  | nil => intro pc hc L S σ h; cases h
  | cons ei es ih =>
    intro pc hc L S σ h
    unfold xchain at hc
    simp only [Bool.and_eq_true, decide_eq_true_eq] at hc
    obtain ⟨⟨h1, h2⟩, h3⟩ := hc
    subst h1
    exact xstep_go C h2 hini hR hj (fun L' S' σ' g => ih _ h3 L' S' σ' g) (fun L' S' σ' g => xblk_sz hEs hjsz es L' S' σ' g) (fun a as σ q g1 g2 => ⟨hE a as σ q g1 g2, hEs a as σ q g2⟩) hcap hrI hrV h
end
section
/-! every method checked against the machine's decoder and the tables -/
theorem ck_0 : xmchk 0 cd_0 [0] = true := by decide +kernel
theorem ck_1 : xmchk 1 cd_1 [0] = true := by decide +kernel
theorem ck_2 : xmchk 2 cd_2 [0] = true := by decide +kernel
theorem ck_3 : xmchk 3 cd_3 [0, 37] = true := by decide +kernel
theorem ck_4 : xmchk 4 cd_4 [0, 6, 16, 24] = true := by decide +kernel
theorem ck_5 : xmchk 5 cd_5 [0, 20, 22] = true := by decide +kernel
theorem ck_6 : xmchk 6 cd_6 [0, 4, 17, 25] = true := by decide +kernel
theorem ck_7 : xmchk 7 cd_7 [0, 30, 32, 66, 67] = true := by decide +kernel
theorem ck_8 : xmchk 8 cd_8 [0, 20, 21] = true := by decide +kernel
theorem ck_9 : xmchk 9 cd_9 [0, 11, 13, 38, 39] = true := by decide +kernel
theorem ck_10 : xmchk 10 cd_10 [0, 5, 24, 25] = true := by decide +kernel
theorem ck_11 : xmchk 11 cd_11 [0, 5, 19, 24, 41, 44, 51, 57, 63] = true := by decide +kernel
theorem ck_12 : xmchk 12 cd_12 [0, 30, 31] = true := by decide +kernel
theorem ck_13 : xmchk 13 cd_13 [0, 20, 21, 62, 63, 87, 88] = true := by decide +kernel
theorem ck_14 : xmchk 14 cd_14 [0, 6, 15, 18, 19] = true := by decide +kernel
theorem ck_15 : xmchk 15 cd_15 [0, 19, 29] = true := by decide +kernel
theorem ck_16 : xmchk 16 cd_16 [0] = true := by decide +kernel
theorem ck_17 : xmchk 17 cd_17 [0, 13, 14] = true := by decide +kernel
theorem ck_18 : xmchk 18 cd_18 [0, 22, 23] = true := by decide +kernel
theorem ck_19 : xmchk 19 cd_19 [0, 20] = true := by decide +kernel
theorem ck_20 : xmchk 20 cd_20 [0, 12, 13, 35, 36] = true := by decide +kernel
theorem ck_21 : xmchk 21 cd_21 [0] = true := by decide +kernel
theorem ck_22 : xmchk 22 cd_22 [0, 14, 27, 40, 53, 66, 79, 92, 105, 116] = true := by decide +kernel
theorem ck_23 : xmchk 23 cd_23 [0] = true := by decide +kernel
theorem ck_24 : xmchk 24 cd_24 [0, 12, 24, 36, 48, 60, 72, 84, 96] = true := by decide +kernel
theorem ck_25 : xmchk 25 cd_25 [0, 19] = true := by decide +kernel
theorem ck_26 : xmchk 26 cd_26 [0, 8] = true := by decide +kernel
theorem ck_27 : xmchk 27 cd_27 [0, 8] = true := by decide +kernel
theorem ck_28 : xmchk 28 cd_28 [0, 9] = true := by decide +kernel
theorem ck_29 : xmchk 29 cd_29 [0, 8] = true := by decide +kernel
theorem ck_30 : xmchk 30 cd_30 [0, 9] = true := by decide +kernel
theorem ck_31 : xmchk 31 cd_31 [0, 8] = true := by decide +kernel
theorem ck_32 : xmchk 32 cd_32 [0, 9] = true := by decide +kernel
theorem ck_33 : xmchk 33 cd_33 [0, 8] = true := by decide +kernel
theorem ck_34 : xmchk 34 cd_34 [0, 8] = true := by decide +kernel
theorem ck_35 : xmchk 35 cd_35 [0, 8, 19, 27, 28] = true := by decide +kernel
theorem ck_36 : xmchk 36 cd_36 [0, 9, 18] = true := by decide +kernel
theorem ck_37 : xmchk 37 cd_37 [0, 8, 18] = true := by decide +kernel
theorem ck_38 : xmchk 38 cd_38 [0, 8, 19, 31, 39, 40] = true := by decide +kernel
theorem ck_39 : xmchk 39 cd_39 [0, 5, 9, 28, 34, 40] = true := by decide +kernel
theorem ck_40 : xmchk 40 cd_40 [0, 8, 24, 34, 39] = true := by decide +kernel
theorem ck_41 : xmchk 41 cd_41 [0, 10] = true := by decide +kernel
theorem ck_42 : xmchk 42 cd_42 [0, 10] = true := by decide +kernel
theorem ck_43 : xmchk 43 cd_43 [0, 5, 9, 34, 40, 49] = true := by decide +kernel
theorem ck_44 : xmchk 44 cd_44 [0, 8, 20, 32, 36, 40, 41] = true := by decide +kernel
theorem ck_45 : xmchk 45 cd_45 [0, 8, 17, 34, 38, 42, 43] = true := by decide +kernel
theorem ck_46 : xmchk 46 cd_46 [0, 5, 10, 32, 38, 44] = true := by decide +kernel
theorem ck_47 : xmchk 47 cd_47 [0, 5, 10, 32, 42, 59, 65] = true := by decide +kernel
theorem ck_48 : xmchk 48 cd_48 [0, 5, 10, 39, 45, 62, 67, 84, 89, 95] = true := by decide +kernel
theorem ck_49 : xmchk 49 cd_49 [0, 11, 22, 33, 44, 55, 66, 77, 88, 99] = true := by decide +kernel
theorem ck_50 : xmchk 50 cd_50 [0, 15, 29, 43, 57, 71, 85, 99] = true := by decide +kernel
theorem ck_51 : xmchk 51 cd_51 [0, 9, 18, 28] = true := by decide +kernel
theorem ck_52 : xmchk 52 cd_52 [0, 8] = true := by decide +kernel
theorem ck_53 : xmchk 53 cd_53 [0, 8, 18, 30, 38, 41, 51, 60, 63, 66, 89, 98, 101, 107] = true := by decide +kernel
theorem ck_54 : xmchk 54 cd_54 [0, 8, 13, 39, 42, 48] = true := by decide +kernel
def fl_55 (es : List xI) : Bool := xchain yX3_turn.cls cX3_turn (fun b => ([0, 13, 16, 29, 32, 45, 48, 61, 64, 77, 80, 82, 111, 114, 137, 140, 146] : List Nat).getD b 0) 1 22 4 (Option.none) (decide (yX3_turn.name = "<init>")) (xhd es) es
theorem ck_55_0 : ((cd_55.drop 0).take 14).all fl_55 = true := by decide +kernel
theorem ck_55_1 : ((cd_55.drop 14).take 3).all fl_55 = true := by decide +kernel
theorem ck_55 : xmchk 55 cd_55 [0, 13, 16, 29, 32, 45, 48, 61, 64, 77, 80, 82, 111, 114, 137, 140, 146] = true := by
  have h : xmt[55]? = some (yX3_turn, cX3_turn, 4, (Option.none), 1, 22) := rfl
  unfold xmchk
  rw [h]
  simp only [Bool.and_eq_true, decide_eq_true_eq]
  refine ⟨rfl, ?_⟩
  have e : cd_55 = ((cd_55.drop 0).take 14) ++ (((cd_55.drop 14).take 3)) := rfl
  have g : cd_55.all fl_55 = true := by
    rw [e]
    simp only [List.all_append, Bool.and_eq_true]
    exact ⟨ck_55_0, ck_55_1⟩
  exact g
def fl_56 (es : List xI) : Bool := xchain yX3_placeOf.cls cX3_placeOf (fun b => ([0, 8, 18, 27, 42, 50, 53, 74, 82, 97, 105, 112, 113, 118, 142, 156, 163, 164, 172, 180, 186] : List Nat).getD b 0) 1 24 10 (Option.some Jvm.ClassFile.FieldType.int) (decide (yX3_placeOf.name = "<init>")) (xhd es) es
theorem ck_56_0 : ((cd_56.drop 0).take 14).all fl_56 = true := by decide +kernel
theorem ck_56_1 : ((cd_56.drop 14).take 7).all fl_56 = true := by decide +kernel
theorem ck_56 : xmchk 56 cd_56 [0, 8, 18, 27, 42, 50, 53, 74, 82, 97, 105, 112, 113, 118, 142, 156, 163, 164, 172, 180, 186] = true := by
  have h : xmt[56]? = some (yX3_placeOf, cX3_placeOf, 10, (Option.some Jvm.ClassFile.FieldType.int), 1, 24) := rfl
  unfold xmchk
  rw [h]
  simp only [Bool.and_eq_true, decide_eq_true_eq]
  refine ⟨rfl, ?_⟩
  have e : cd_56 = ((cd_56.drop 0).take 14) ++ (((cd_56.drop 14).take 7)) := rfl
  have g : cd_56.all fl_56 = true := by
    rw [e]
    simp only [List.all_append, Bool.and_eq_true]
    exact ⟨ck_56_0, ck_56_1⟩
  exact g
theorem ck_57 : xmchk 57 cd_57 [0, 8, 18, 34, 39, 42, 72, 75, 81] = true := by decide +kernel
theorem ck_58 : xmchk 58 cd_58 [0, 16, 21, 40, 45, 48, 52, 53] = true := by decide +kernel
theorem ck_59 : xmchk 59 cd_59 [0, 3, 19, 22, 41, 43, 49] = true := by decide +kernel
theorem ck_60 : xmchk 60 cd_60 [0, 11, 22, 33, 44, 55, 66, 77] = true := by decide +kernel
theorem ck_61 : xmchk 61 cd_61 [0, 12, 23, 34, 45, 56, 73] = true := by decide +kernel
theorem ck_62 : xmchk 62 cd_62 [0] = true := by decide +kernel
theorem ck_63 : xmchk 63 cd_63 [0, 8, 16, 24, 29, 34, 41, 42] = true := by decide +kernel
theorem ck_64 : xmchk 64 cd_64 [0, 9, 17] = true := by decide +kernel
theorem ck_65 : xmchk 65 cd_65 [0, 8, 17, 33, 36, 40, 41] = true := by decide +kernel
theorem ck_66 : xmchk 66 cd_66 [0, 8, 19, 22, 24, 32, 46, 50, 54, 55] = true := by decide +kernel
theorem ck_67 : xmchk 67 cd_67 [0, 4, 21, 31, 36, 48, 51, 57, 64, 72, 73, 80, 87, 94, 95] = true := by decide +kernel
theorem ck_68 : xmchk 68 cd_68 [0, 4, 12, 20, 26, 34, 44, 49, 56, 62, 76, 83, 84] = true := by decide +kernel
theorem ck_69 : xmchk 69 cd_69 [0, 9, 14, 30, 33, 36, 42] = true := by decide +kernel
def fl_70 (es : List xI) : Bool := xchain yX4_gather.cls cX4_gather (fun b => ([0, 11, 16, 23, 28, 41, 51, 66, 73, 90, 94, 109, 116, 117, 135, 150, 153, 173, 178, 188, 191, 194, 200] : List Nat).getD b 0) 5 133 7 (Option.none) (decide (yX4_gather.name = "<init>")) (xhd es) es
theorem ck_70_0 : ((cd_70.drop 0).take 16).all fl_70 = true := by decide +kernel
theorem ck_70_1 : ((cd_70.drop 16).take 7).all fl_70 = true := by decide +kernel
theorem ck_70 : xmchk 70 cd_70 [0, 11, 16, 23, 28, 41, 51, 66, 73, 90, 94, 109, 116, 117, 135, 150, 153, 173, 178, 188, 191, 194, 200] = true := by
  have h : xmt[70]? = some (yX4_gather, cX4_gather, 7, (Option.none), 5, 133) := rfl
  unfold xmchk
  rw [h]
  simp only [Bool.and_eq_true, decide_eq_true_eq]
  refine ⟨rfl, ?_⟩
  have e : cd_70 = ((cd_70.drop 0).take 16) ++ (((cd_70.drop 16).take 7)) := rfl
  have g : cd_70.all fl_70 = true := by
    rw [e]
    simp only [List.all_append, Bool.and_eq_true]
    exact ⟨ck_70_0, ck_70_1⟩
  exact g
theorem ck_71 : xmchk 71 cd_71 [0, 8, 19, 32, 37, 57, 60, 64, 65] = true := by decide +kernel
theorem ck_72 : xmchk 72 cd_72 [0, 8, 15, 26] = true := by decide +kernel
theorem ck_73 : xmchk 73 cd_73 [0, 11, 16, 23, 28, 41, 49, 62, 76, 82, 90, 96] = true := by decide +kernel
theorem ck_74 : xmchk 74 cd_74 [0, 7, 17, 24, 25] = true := by decide +kernel
theorem ck_75 : xmchk 75 cd_75 [0, 4, 12, 25, 42, 47, 53, 64, 72, 81, 84, 92] = true := by decide +kernel
theorem ck_76 : xmchk 76 cd_76 [0, 8, 17, 25, 30, 50, 59, 64, 70] = true := by decide +kernel
theorem ck_77 : xmchk 77 cd_77 [0, 7, 14, 17, 34, 41, 44, 53, 57, 63, 70] = true := by decide +kernel
theorem ck_78 : xmchk 78 cd_78 [0, 7, 18, 19, 26, 34, 41] = true := by decide +kernel
theorem ck_79 : xmchk 79 cd_79 [0, 8, 17, 30, 33, 50, 53, 60] = true := by decide +kernel
theorem ck_80 : xmchk 80 cd_80 [0, 11, 22, 33, 44, 55, 66] = true := by decide +kernel
theorem ck_81 : xmchk 81 cd_81 [0, 14] = true := by decide +kernel
theorem ck_82 : xmchk 82 cd_82 [0] = true := by decide +kernel
theorem ck_83 : xmchk 83 cd_83 [0, 12] = true := by decide +kernel
theorem ck_84 : xmchk 84 cd_84 [0, 8, 19, 22, 23] = true := by decide +kernel
theorem ck_85 : xmchk 85 cd_85 [0, 2, 18, 24, 30] = true := by decide +kernel
theorem ck_86 : xmchk 86 cd_86 [0, 4, 20, 38, 41, 47] = true := by decide +kernel
theorem ck_87 : xmchk 87 cd_87 [0, 11] = true := by decide +kernel
theorem ck_88 : xmchk 88 cd_88 [0, 15, 29] = true := by decide +kernel
theorem ck_89 : xmchk 89 cd_89 [0] = true := by decide +kernel
theorem ck_90 : xmchk 90 cd_90 [0, 4, 12, 19, 27, 30, 36] = true := by decide +kernel
theorem ck_91 : xmchk 91 cd_91 [0, 16, 32] = true := by decide +kernel
theorem ck_92 : xmchk 92 cd_92 [0, 7, 20, 43] = true := by decide +kernel
theorem ck_93 : xmchk 93 cd_93 [0, 12] = true := by decide +kernel
theorem ck_94 : xmchk 94 cd_94 [0, 15, 20, 26] = true := by decide +kernel
theorem ck_95 : xmchk 95 cd_95 [0, 2, 20, 28, 35, 41] = true := by decide +kernel
theorem ck_96 : xmchk 96 cd_96 [0, 11, 22] = true := by decide +kernel
theorem ck_97 : xmchk 97 cd_97 [0, 14, 27, 40, 53, 66, 79] = true := by decide +kernel
theorem ck_98 : xmchk 98 cd_98 [0] = true := by decide +kernel
theorem ck_99 : xmchk 99 cd_99 [0] = true := by decide +kernel
theorem ck_100 : xmchk 100 cd_100 [0, 8] = true := by decide +kernel
theorem ck_101 : xmchk 101 cd_101 [0, 20, 23, 24] = true := by decide +kernel
theorem ck_102 : xmchk 102 cd_102 [0, 13] = true := by decide +kernel
theorem ck_103 : xmchk 103 cd_103 [0, 20, 28, 29] = true := by decide +kernel
theorem ck_104 : xmchk 104 cd_104 [0, 8] = true := by decide +kernel
theorem ck_105 : xmchk 105 cd_105 [0, 5, 8] = true := by decide +kernel
theorem ck_106 : xmchk 106 cd_106 [0, 4, 18, 26, 27, 35] = true := by decide +kernel
theorem ck_107 : xmchk 107 cd_107 [0, 4, 28, 29, 42, 54, 55, 64, 72, 73, 81] = true := by decide +kernel
theorem ck_108 : xmchk 108 cd_108 [0, 2, 18, 30, 34, 36, 42] = true := by decide +kernel
theorem ck_109 : xmchk 109 cd_109 [0, 10, 24, 36, 48, 70] = true := by decide +kernel
theorem ck_110 : xmchk 110 cd_110 [0, 12, 24, 36, 48] = true := by decide +kernel
theorem ck_111 : xmchk 111 cd_111 [0, 5, 8, 12, 18, 41, 46, 60, 74] = true := by decide +kernel
theorem ck_112 : xmchk 112 cd_112 [0, 21, 33] = true := by decide +kernel
theorem ck_113 : xmchk 113 cd_113 [0, 8, 14, 17] = true := by decide +kernel
theorem ck_114 : xmchk 114 cd_114 [0, 20, 28, 29, 34, 59] = true := by decide +kernel
theorem ck_115 : xmchk 115 cd_115 [0, 14, 28] = true := by decide +kernel
theorem ck_116 : xmchk 116 cd_116 [0, 4, 11, 31, 40, 49, 62, 65] = true := by decide +kernel
theorem ck_117 : xmchk 117 cd_117 [0, 11, 22, 33, 44, 55, 66] = true := by decide +kernel
theorem ck_118 : xmchk 118 cd_118 [0, 14, 27, 40, 53, 66] = true := by decide +kernel
theorem ck_119 : xmchk 119 cd_119 [0] = true := by decide +kernel
theorem ck_120 : xmchk 120 cd_120 [0] = true := by decide +kernel
theorem ck_121 : xmchk 121 cd_121 [0, 8] = true := by decide +kernel
theorem ck_122 : xmchk 122 cd_122 [0, 8] = true := by decide +kernel
theorem ck_123 : xmchk 123 cd_123 [0, 12, 24, 36, 49, 61] = true := by decide +kernel
theorem ck_124 : xmchk 124 cd_124 [0, 9] = true := by decide +kernel
theorem ck_125 : xmchk 125 cd_125 [0] = true := by decide +kernel
theorem ck_126 : xmchk 126 cd_126 [0, 7, 17, 37, 43, 127, 133, 146, 147] = true := by decide +kernel
theorem ck_127 : xmchk 127 cd_127 [0, 8, 18, 28, 38, 68, 80, 92, 93, 94, 101, 110, 111, 112, 119, 120, 127, 139, 148, 149, 150, 157] = true := by decide +kernel
theorem ck_128 : xmchk 128 cd_128 [0, 8, 13, 30, 33, 41] = true := by decide +kernel
theorem ck_129 : xmchk 129 cd_129 [0, 6, 10, 25, 28, 43, 48, 54] = true := by decide +kernel
theorem ck_130 : xmchk 130 cd_130 [0, 6, 10, 27, 30, 41, 44, 51, 57] = true := by decide +kernel
theorem ck_131 : xmchk 131 cd_131 [0, 11, 22, 33, 44, 55] = true := by decide +kernel
theorem ck_132 : xmchk 132 cd_132 [0, 13, 25] = true := by decide +kernel
theorem ck_133 : xmchk 133 cd_133 [0, 6, 20, 23, 33, 39, 51, 59, 70, 83] = true := by decide +kernel
theorem ck_134 : xmchk 134 cd_134 [0, 8, 14, 24, 32, 47] = true := by decide +kernel
theorem ck_135 : xmchk 135 cd_135 [0, 11, 14, 28, 31, 43] = true := by decide +kernel
theorem ck_136 : xmchk 136 cd_136 [0, 21, 24, 36] = true := by decide +kernel
theorem ck_137 : xmchk 137 cd_137 [0, 11, 14, 22, 25, 28, 47, 50] = true := by decide +kernel
theorem ck_138 : xmchk 138 cd_138 [0, 9, 12, 22, 30, 48, 51, 62] = true := by decide +kernel
def fl_139 (es : List xI) : Bool := xchain yX9_edit.cls cX9_edit (fun b => ([0, 5, 14, 17, 20, 27, 36, 47, 50, 67, 71, 102, 105, 123, 126, 132, 144, 150, 161, 178, 181, 197, 219, 240, 251] : List Nat).getD b 0) 3 73 9 (Option.some Jvm.ClassFile.FieldType.int) (decide (yX9_edit.name = "<init>")) (xhd es) es
theorem ck_139_0 : ((cd_139.drop 0).take 18).all fl_139 = true := by decide +kernel
theorem ck_139_1 : ((cd_139.drop 18).take 7).all fl_139 = true := by decide +kernel
theorem ck_139 : xmchk 139 cd_139 [0, 5, 14, 17, 20, 27, 36, 47, 50, 67, 71, 102, 105, 123, 126, 132, 144, 150, 161, 178, 181, 197, 219, 240, 251] = true := by
  have h : xmt[139]? = some (yX9_edit, cX9_edit, 9, (Option.some Jvm.ClassFile.FieldType.int), 3, 73) := rfl
  unfold xmchk
  rw [h]
  simp only [Bool.and_eq_true, decide_eq_true_eq]
  refine ⟨rfl, ?_⟩
  have e : cd_139 = ((cd_139.drop 0).take 18) ++ (((cd_139.drop 18).take 7)) := rfl
  have g : cd_139.all fl_139 = true := by
    rw [e]
    simp only [List.all_append, Bool.and_eq_true]
    exact ⟨ck_139_0, ck_139_1⟩
  exact g
theorem ck_140 : xmchk 140 cd_140 [0, 5, 11, 22, 29, 47, 50, 63, 88, 91, 97, 107, 115, 125] = true := by decide +kernel
theorem ck_141 : xmchk 141 cd_141 [0, 5, 13, 21, 24, 35, 49, 52, 55, 67] = true := by decide +kernel
theorem ck_142 : xmchk 142 cd_142 [0, 5, 11, 36, 39, 42] = true := by decide +kernel
theorem ck_143 : xmchk 143 cd_143 [0, 5, 19, 22, 25, 28, 39, 59, 70, 73] = true := by decide +kernel
theorem ck_144 : xmchk 144 cd_144 [0, 5, 11, 22, 36, 39, 42, 54, 65] = true := by decide +kernel
theorem ck_145 : xmchk 145 cd_145 [0, 5, 11, 22, 29, 39] = true := by decide +kernel
theorem ck_146 : xmchk 146 cd_146 [0, 5, 11, 22, 29, 41, 44] = true := by decide +kernel
theorem ck_147 : xmchk 147 cd_147 [0, 11, 14, 22] = true := by decide +kernel
theorem ck_148 : xmchk 148 cd_148 [0, 11, 14, 24, 35, 39, 57, 67, 74, 84, 90, 97, 103] = true := by decide +kernel
theorem ck_149 : xmchk 149 cd_149 [0, 5, 11, 52, 63, 64, 72, 73, 84, 85, 96, 97, 108, 109, 120, 121] = true := by decide +kernel
theorem ck_150 : xmchk 150 cd_150 [0, 11] = true := by decide +kernel
theorem ck_151 : xmchk 151 cd_151 [0, 11] = true := by decide +kernel
theorem ck_152 : xmchk 152 cd_152 [0, 5, 14, 23, 26, 29, 42, 45, 50, 63, 76, 88] = true := by decide +kernel
theorem ck_153 : xmchk 153 cd_153 [0, 5, 11, 22, 25, 40, 43, 44] = true := by decide +kernel
theorem ck_154 : xmchk 154 cd_154 [0, 11, 14, 22, 29, 32, 45] = true := by decide +kernel
theorem ck_155 : xmchk 155 cd_155 [0, 10] = true := by decide +kernel
theorem ck_156 : xmchk 156 cd_156 [0, 11] = true := by decide +kernel
theorem ck_157 : xmchk 157 cd_157 [0, 10, 21] = true := by decide +kernel
theorem ck_158 : xmchk 158 cd_158 [0, 56, 73, 76, 77, 87, 88, 98, 99, 109, 110, 120, 121, 131, 132, 142, 143, 153, 154, 164, 165, 175, 176] = true := by decide +kernel
theorem ck_159 : xmchk 159 cd_159 [0, 13, 14] = true := by decide +kernel
theorem ck_160 : xmchk 160 cd_160 [0, 8, 9] = true := by decide +kernel
theorem ck_161 : xmchk 161 cd_161 [0, 11, 14] = true := by decide +kernel
theorem ck_162 : xmchk 162 cd_162 [0, 15, 22, 23] = true := by decide +kernel
theorem ck_163 : xmchk 163 cd_163 [0, 36, 42, 62, 69, 70, 71, 77, 86, 93, 94, 95, 101, 110, 119, 126, 127, 128, 134, 135] = true := by decide +kernel
theorem ck_164 : xmchk 164 cd_164 [0, 17, 18] = true := by decide +kernel
theorem ck_165 : xmchk 165 cd_165 [0] = true := by decide +kernel
theorem ck_166 : xmchk 166 cd_166 [0] = true := by decide +kernel
theorem ck_167 : xmchk 167 cd_167 [0] = true := by decide +kernel
theorem ck_168 : xmchk 168 cd_168 [0, 2, 39, 47, 64, 79, 96, 111, 120, 126] = true := by decide +kernel
theorem ck_169 : xmchk 169 cd_169 [0, 9] = true := by decide +kernel
theorem ck_170 : xmchk 170 cd_170 [0, 9, 21, 24, 27, 40, 46, 56, 79, 95] = true := by decide +kernel
theorem ck_171 : xmchk 171 cd_171 [0, 18, 25, 36, 39, 42, 51, 57, 64, 82, 87, 100, 102] = true := by decide +kernel
def fl_172 (es : List xI) : Bool := xchain yX10_test.cls cX10_test (fun b => ([0, 14, 31, 34, 37, 44, 45, 65, 79, 82, 86, 87, 108, 111, 115, 116, 137, 150, 153, 157, 158, 168, 187] : List Nat).getD b 0) 1 25 7 (Option.some Jvm.ClassFile.FieldType.int) (decide (yX10_test.name = "<init>")) (xhd es) es
theorem ck_172_0 : ((cd_172.drop 0).take 16).all fl_172 = true := by decide +kernel
theorem ck_172_1 : ((cd_172.drop 16).take 7).all fl_172 = true := by decide +kernel
theorem ck_172 : xmchk 172 cd_172 [0, 14, 31, 34, 37, 44, 45, 65, 79, 82, 86, 87, 108, 111, 115, 116, 137, 150, 153, 157, 158, 168, 187] = true := by
  have h : xmt[172]? = some (yX10_test, cX10_test, 7, (Option.some Jvm.ClassFile.FieldType.int), 1, 25) := rfl
  unfold xmchk
  rw [h]
  simp only [Bool.and_eq_true, decide_eq_true_eq]
  refine ⟨rfl, ?_⟩
  have e : cd_172 = ((cd_172.drop 0).take 16) ++ (((cd_172.drop 16).take 7)) := rfl
  have g : cd_172.all fl_172 = true := by
    rw [e]
    simp only [List.all_append, Bool.and_eq_true]
    exact ⟨ck_172_0, ck_172_1⟩
  exact g
theorem ck_173 : xmchk 173 cd_173 [0, 16] = true := by decide +kernel
theorem ck_174 : xmchk 174 cd_174 [0, 10, 22, 25, 28] = true := by decide +kernel
theorem ck_175 : xmchk 175 cd_175 [0, 14, 25, 28, 31] = true := by decide +kernel
theorem ck_176 : xmchk 176 cd_176 [0, 11, 20, 21] = true := by decide +kernel
theorem ck_177 : xmchk 177 cd_177 [0, 5, 15, 24, 43, 51, 59, 60, 68, 74] = true := by decide +kernel
def fl_178 (es : List xI) : Bool := xchain yX10_isSo.cls cX10_isSo (fun b => ([0, 60, 66, 74, 93, 104, 125, 126, 127, 133, 142, 143, 144, 147, 155, 172, 180, 195, 200, 206, 208, 214, 231, 232, 235, 243, 260, 278, 285, 291] : List Nat).getD b 0) 3 71 8 (Option.some Jvm.ClassFile.FieldType.boolean) (decide (yX10_isSo.name = "<init>")) (xhd es) es
theorem ck_178_0 : ((cd_178.drop 0).take 14).all fl_178 = true := by decide +kernel
theorem ck_178_1 : ((cd_178.drop 14).take 16).all fl_178 = true := by decide +kernel
theorem ck_178 : xmchk 178 cd_178 [0, 60, 66, 74, 93, 104, 125, 126, 127, 133, 142, 143, 144, 147, 155, 172, 180, 195, 200, 206, 208, 214, 231, 232, 235, 243, 260, 278, 285, 291] = true := by
  have h : xmt[178]? = some (yX10_isSo, cX10_isSo, 8, (Option.some Jvm.ClassFile.FieldType.boolean), 3, 71) := rfl
  unfold xmchk
  rw [h]
  simp only [Bool.and_eq_true, decide_eq_true_eq]
  refine ⟨rfl, ?_⟩
  have e : cd_178 = ((cd_178.drop 0).take 14) ++ (((cd_178.drop 14).take 16)) := rfl
  have g : cd_178.all fl_178 = true := by
    rw [e]
    simp only [List.all_append, Bool.and_eq_true]
    exact ⟨ck_178_0, ck_178_1⟩
  exact g
theorem ck_179 : xmchk 179 cd_179 [0, 10, 26, 29, 32, 38, 45, 46] = true := by decide +kernel
def fl_180 (es : List xI) : Bool := xchain yX10_isHeld.cls cX10_isHeld (fun b => ([0, 6, 32, 38, 126, 127, 144, 145, 163, 164, 170, 185, 186] : List Nat).getD b 0) 4 98 7 (Option.some Jvm.ClassFile.FieldType.boolean) (decide (yX10_isHeld.name = "<init>")) (xhd es) es
theorem ck_180_0 : ((cd_180.drop 0).take 5).all fl_180 = true := by decide +kernel
theorem ck_180_1 : ((cd_180.drop 5).take 8).all fl_180 = true := by decide +kernel
theorem ck_180 : xmchk 180 cd_180 [0, 6, 32, 38, 126, 127, 144, 145, 163, 164, 170, 185, 186] = true := by
  have h : xmt[180]? = some (yX10_isHeld, cX10_isHeld, 7, (Option.some Jvm.ClassFile.FieldType.boolean), 4, 98) := rfl
  unfold xmchk
  rw [h]
  simp only [Bool.and_eq_true, decide_eq_true_eq]
  refine ⟨rfl, ?_⟩
  have e : cd_180 = ((cd_180.drop 0).take 5) ++ (((cd_180.drop 5).take 8)) := rfl
  have g : cd_180.all fl_180 = true := by
    rw [e]
    simp only [List.all_append, Bool.and_eq_true]
    exact ⟨ck_180_0, ck_180_1⟩
  exact g
theorem ck_181 : xmchk 181 cd_181 [0, 16] = true := by decide +kernel
theorem ck_182 : xmchk 182 cd_182 [0] = true := by decide +kernel
theorem ck_183 : xmchk 183 cd_183 [0, 14, 22, 39, 44] = true := by decide +kernel
theorem ck_184 : xmchk 184 cd_184 [0, 7, 43, 47, 48, 55] = true := by decide +kernel
theorem ck_185 : xmchk 185 cd_185 [0, 14, 20, 41, 46, 47] = true := by decide +kernel
def fl_186 (es : List xI) : Bool := xchain yX10_edit.cls cX10_edit (fun b => ([0, 10, 17, 30, 43, 60, 71, 74, 89, 103, 109, 141, 157, 160, 186, 189, 269, 288, 292, 331, 366, 375, 378, 444] : List Nat).getD b 0) 2 47 11 (Option.some Jvm.ClassFile.FieldType.int) (decide (yX10_edit.name = "<init>")) (xhd es) es
theorem ck_186_0 : ((cd_186.drop 0).take 11).all fl_186 = true := by decide +kernel
theorem ck_186_1 : ((cd_186.drop 11).take 5).all fl_186 = true := by decide +kernel
theorem ck_186_2 : ((cd_186.drop 16).take 6).all fl_186 = true := by decide +kernel
theorem ck_186_3 : ((cd_186.drop 22).take 2).all fl_186 = true := by decide +kernel
theorem ck_186 : xmchk 186 cd_186 [0, 10, 17, 30, 43, 60, 71, 74, 89, 103, 109, 141, 157, 160, 186, 189, 269, 288, 292, 331, 366, 375, 378, 444] = true := by
  have h : xmt[186]? = some (yX10_edit, cX10_edit, 11, (Option.some Jvm.ClassFile.FieldType.int), 2, 47) := rfl
  unfold xmchk
  rw [h]
  simp only [Bool.and_eq_true, decide_eq_true_eq]
  refine ⟨rfl, ?_⟩
  have e : cd_186 = ((cd_186.drop 0).take 11) ++ (((cd_186.drop 11).take 5) ++ (((cd_186.drop 16).take 6) ++ (((cd_186.drop 22).take 2)))) := rfl
  have g : cd_186.all fl_186 = true := by
    rw [e]
    simp only [List.all_append, Bool.and_eq_true]
    exact ⟨ck_186_0, ⟨ck_186_1, ⟨ck_186_2, ck_186_3⟩⟩⟩
  exact g
def fl_187 (es : List xI) : Bool := xchain yX10_fitsAt.cls cX10_fitsAt (fun b => ([0, 18, 36, 45, 63, 72, 83, 85, 102, 124, 144, 147, 170, 172, 175, 200, 222, 228, 256, 261, 262, 283, 284] : List Nat).getD b 0) 1 22 11 (Option.some Jvm.ClassFile.FieldType.int) (decide (yX10_fitsAt.name = "<init>")) (xhd es) es
theorem ck_187_0 : ((cd_187.drop 0).take 11).all fl_187 = true := by decide +kernel
theorem ck_187_1 : ((cd_187.drop 11).take 12).all fl_187 = true := by decide +kernel
theorem ck_187 : xmchk 187 cd_187 [0, 18, 36, 45, 63, 72, 83, 85, 102, 124, 144, 147, 170, 172, 175, 200, 222, 228, 256, 261, 262, 283, 284] = true := by
  have h : xmt[187]? = some (yX10_fitsAt, cX10_fitsAt, 11, (Option.some Jvm.ClassFile.FieldType.int), 1, 22) := rfl
  unfold xmchk
  rw [h]
  simp only [Bool.and_eq_true, decide_eq_true_eq]
  refine ⟨rfl, ?_⟩
  have e : cd_187 = ((cd_187.drop 0).take 11) ++ (((cd_187.drop 11).take 12)) := rfl
  have g : cd_187.all fl_187 = true := by
    rw [e]
    simp only [List.all_append, Bool.and_eq_true]
    exact ⟨ck_187_0, ck_187_1⟩
  exact g
theorem ck_188 : xmchk 188 cd_188 [0, 7, 37, 45, 46, 53] = true := by decide +kernel
def fl_189 (es : List xI) : Bool := xchain yX10_apply.cls cX10_apply (fun b => ([0, 17, 25, 63, 86, 92, 95, 102, 122, 128, 131, 162, 196, 219] : List Nat).getD b 0) 2 52 9 (Option.none) (decide (yX10_apply.name = "<init>")) (xhd es) es
theorem ck_189_0 : ((cd_189.drop 0).take 10).all fl_189 = true := by decide +kernel
theorem ck_189_1 : ((cd_189.drop 10).take 4).all fl_189 = true := by decide +kernel
theorem ck_189 : xmchk 189 cd_189 [0, 17, 25, 63, 86, 92, 95, 102, 122, 128, 131, 162, 196, 219] = true := by
  have h : xmt[189]? = some (yX10_apply, cX10_apply, 9, (Option.none), 2, 52) := rfl
  unfold xmchk
  rw [h]
  simp only [Bool.and_eq_true, decide_eq_true_eq]
  refine ⟨rfl, ?_⟩
  have e : cd_189 = ((cd_189.drop 0).take 10) ++ (((cd_189.drop 10).take 4)) := rfl
  have g : cd_189.all fl_189 = true := by
    rw [e]
    simp only [List.all_append, Bool.and_eq_true]
    exact ⟨ck_189_0, ck_189_1⟩
  exact g
theorem ck_190 : xmchk 190 cd_190 [0, 14, 28, 45, 59] = true := by decide +kernel
theorem ck_191 : xmchk 191 cd_191 [0, 6, 11, 15, 38, 44] = true := by decide +kernel
def fl_192 (es : List xI) : Bool := xchain yX10_revert.cls cX10_revert (fun b => ([0, 10, 16, 33, 34, 39, 72, 80, 81, 88, 95, 110, 115, 137, 270, 411, 417] : List Nat).getD b 0) 2 52 8 (Option.some Jvm.ClassFile.FieldType.int) (decide (yX10_revert.name = "<init>")) (xhd es) es
theorem ck_192_0 : ((cd_192.drop 0).take 12).all fl_192 = true := by decide +kernel
theorem ck_192_1 : ((cd_192.drop 12).take 1).all fl_192 = true := by decide +kernel
theorem ck_192_2 : ((cd_192.drop 13).take 1).all fl_192 = true := by decide +kernel
theorem ck_192_3 : ((cd_192.drop 14).take 3).all fl_192 = true := by decide +kernel
theorem ck_192 : xmchk 192 cd_192 [0, 10, 16, 33, 34, 39, 72, 80, 81, 88, 95, 110, 115, 137, 270, 411, 417] = true := by
  have h : xmt[192]? = some (yX10_revert, cX10_revert, 8, (Option.some Jvm.ClassFile.FieldType.int), 2, 52) := rfl
  unfold xmchk
  rw [h]
  simp only [Bool.and_eq_true, decide_eq_true_eq]
  refine ⟨rfl, ?_⟩
  have e : cd_192 = ((cd_192.drop 0).take 12) ++ (((cd_192.drop 12).take 1) ++ (((cd_192.drop 13).take 1) ++ (((cd_192.drop 14).take 3)))) := rfl
  have g : cd_192.all fl_192 = true := by
    rw [e]
    simp only [List.all_append, Bool.and_eq_true]
    exact ⟨ck_192_0, ⟨ck_192_1, ⟨ck_192_2, ck_192_3⟩⟩⟩
  exact g
theorem ck_193 : xmchk 193 cd_193 [0, 10, 18, 26, 29, 79, 82] = true := by decide +kernel
theorem ck_194 : xmchk 194 cd_194 [0, 10, 18, 29, 36, 37] = true := by decide +kernel
def fl_195 (es : List xI) : Bool := xchain yX10_gives.cls cX10_gives (fun b => ([0, 7, 28, 72, 75, 76, 115, 118, 119, 142, 159, 163, 164, 171, 177] : List Nat).getD b 0) 2 46 8 (Option.some Jvm.ClassFile.FieldType.boolean) (decide (yX10_gives.name = "<init>")) (xhd es) es
theorem ck_195_0 : ((cd_195.drop 0).take 9).all fl_195 = true := by decide +kernel
theorem ck_195_1 : ((cd_195.drop 9).take 6).all fl_195 = true := by decide +kernel
theorem ck_195 : xmchk 195 cd_195 [0, 7, 28, 72, 75, 76, 115, 118, 119, 142, 159, 163, 164, 171, 177] = true := by
  have h : xmt[195]? = some (yX10_gives, cX10_gives, 8, (Option.some Jvm.ClassFile.FieldType.boolean), 2, 46) := rfl
  unfold xmchk
  rw [h]
  simp only [Bool.and_eq_true, decide_eq_true_eq]
  refine ⟨rfl, ?_⟩
  have e : cd_195 = ((cd_195.drop 0).take 9) ++ (((cd_195.drop 9).take 6)) := rfl
  have g : cd_195.all fl_195 = true := by
    rw [e]
    simp only [List.all_append, Bool.and_eq_true]
    exact ⟨ck_195_0, ck_195_1⟩
  exact g
theorem ck_196 : xmchk 196 cd_196 [0, 33, 36, 43, 57, 60, 64, 65] = true := by decide +kernel
theorem ck_197 : xmchk 197 cd_197 [0, 10, 18, 21, 26, 32, 39, 40] = true := by decide +kernel
theorem ck_198 : xmchk 198 cd_198 [0, 2, 28, 34] = true := by decide +kernel
theorem ck_199 : xmchk 199 cd_199 [0, 10, 16, 40, 43] = true := by decide +kernel
theorem ck_200 : xmchk 200 cd_200 [0, 5, 20, 60] = true := by decide +kernel
theorem ck_201 : xmchk 201 cd_201 [0, 10, 16, 32, 39] = true := by decide +kernel
theorem ck_202 : xmchk 202 cd_202 [0, 10, 16, 32, 58, 59] = true := by decide +kernel
theorem ck_203 : xmchk 203 cd_203 [0, 14, 20] = true := by decide +kernel
theorem ck_204 : xmchk 204 cd_204 [0, 39, 43, 44] = true := by decide +kernel
theorem ck_205 : xmchk 205 cd_205 [0, 5, 34, 37, 41, 42] = true := by decide +kernel
theorem ck_206 : xmchk 206 cd_206 [0, 33, 38, 41, 45, 46] = true := by decide +kernel
theorem ck_207 : xmchk 207 cd_207 [0, 47, 51, 52] = true := by decide +kernel
theorem ck_208 : xmchk 208 cd_208 [0, 7, 13, 43, 46, 48, 55] = true := by decide +kernel
theorem ck_209 : xmchk 209 cd_209 [0, 12, 19] = true := by decide +kernel
theorem ck_210 : xmchk 210 cd_210 [0, 17, 40, 51] = true := by decide +kernel
theorem ck_211 : xmchk 211 cd_211 [0, 2, 28, 36, 50, 53, 55, 61] = true := by decide +kernel
theorem ck_212 : xmchk 212 cd_212 [0] = true := by decide +kernel
theorem ck_213 : xmchk 213 cd_213 [0] = true := by decide +kernel
theorem ck_214 : xmchk 214 cd_214 [0, 5, 13, 18, 21, 28] = true := by decide +kernel
def fl_215 (es : List xI) : Bool := xchain yX10_makeMany.cls cX10_makeMany (fun b => ([0, 4, 30, 38, 51, 57, 69, 74, 86, 120, 135, 148, 151, 161, 176, 182, 206, 207] : List Nat).getD b 0) 6 146 4 (Option.none) (decide (yX10_makeMany.name = "<init>")) (xhd es) es
theorem ck_215_0 : ((cd_215.drop 0).take 10).all fl_215 = true := by decide +kernel
theorem ck_215_1 : ((cd_215.drop 10).take 8).all fl_215 = true := by decide +kernel
theorem ck_215 : xmchk 215 cd_215 [0, 4, 30, 38, 51, 57, 69, 74, 86, 120, 135, 148, 151, 161, 176, 182, 206, 207] = true := by
  have h : xmt[215]? = some (yX10_makeMany, cX10_makeMany, 4, (Option.none), 6, 146) := rfl
  unfold xmchk
  rw [h]
  simp only [Bool.and_eq_true, decide_eq_true_eq]
  refine ⟨rfl, ?_⟩
  have e : cd_215 = ((cd_215.drop 0).take 10) ++ (((cd_215.drop 10).take 8)) := rfl
  have g : cd_215.all fl_215 = true := by
    rw [e]
    simp only [List.all_append, Bool.and_eq_true]
    exact ⟨ck_215_0, ck_215_1⟩
  exact g
theorem ck_216 : xmchk 216 cd_216 [0, 5, 6, 26, 37, 40, 46, 54, 57, 61, 66, 70, 84, 85] = true := by decide +kernel
theorem ck_217 : xmchk 217 cd_217 [0, 12, 16, 51, 62, 84, 90, 133] = true := by decide +kernel
def fl_218 (es : List xI) : Bool := xchain yX10_cut.cls cX10_cut (fun b => ([0, 27, 30, 55, 61, 76, 120] : List Nat).getD b 0) 1 22 5 (Option.none) (decide (yX10_cut.name = "<init>")) (xhd es) es
theorem ck_218_0 : ((cd_218.drop 0).take 6).all fl_218 = true := by decide +kernel
theorem ck_218_1 : ((cd_218.drop 6).take 1).all fl_218 = true := by decide +kernel
theorem ck_218 : xmchk 218 cd_218 [0, 27, 30, 55, 61, 76, 120] = true := by
  have h : xmt[218]? = some (yX10_cut, cX10_cut, 5, (Option.none), 1, 22) := rfl
  unfold xmchk
  rw [h]
  simp only [Bool.and_eq_true, decide_eq_true_eq]
  refine ⟨rfl, ?_⟩
  have e : cd_218 = ((cd_218.drop 0).take 6) ++ (((cd_218.drop 6).take 1)) := rfl
  have g : cd_218.all fl_218 = true := by
    rw [e]
    simp only [List.all_append, Bool.and_eq_true]
    exact ⟨ck_218_0, ck_218_1⟩
  exact g
theorem ck_219 : xmchk 219 cd_219 [0, 4, 77, 83] = true := by decide +kernel
def fl_220 (es : List xI) : Bool := xchain yX10_run.cls cX10_run (fun b => ([0, 5, 11, 34, 58, 61, 65, 66, 74, 87, 95, 96, 103, 112, 158, 183, 199, 201, 257, 283, 297, 310, 328, 355, 391] : List Nat).getD b 0) 5 124 11 (Option.none) (decide (yX10_run.name = "<init>")) (xhd es) es
theorem ck_220_0 : ((cd_220.drop 0).take 13).all fl_220 = true := by decide +kernel
theorem ck_220_1 : ((cd_220.drop 13).take 5).all fl_220 = true := by decide +kernel
theorem ck_220_2 : ((cd_220.drop 18).take 5).all fl_220 = true := by decide +kernel
theorem ck_220_3 : ((cd_220.drop 23).take 2).all fl_220 = true := by decide +kernel
theorem ck_220 : xmchk 220 cd_220 [0, 5, 11, 34, 58, 61, 65, 66, 74, 87, 95, 96, 103, 112, 158, 183, 199, 201, 257, 283, 297, 310, 328, 355, 391] = true := by
  have h : xmt[220]? = some (yX10_run, cX10_run, 11, (Option.none), 5, 124) := rfl
  unfold xmchk
  rw [h]
  simp only [Bool.and_eq_true, decide_eq_true_eq]
  refine ⟨rfl, ?_⟩
  have e : cd_220 = ((cd_220.drop 0).take 13) ++ (((cd_220.drop 13).take 5) ++ (((cd_220.drop 18).take 5) ++ (((cd_220.drop 23).take 2)))) := rfl
  have g : cd_220.all fl_220 = true := by
    rw [e]
    simp only [List.all_append, Bool.and_eq_true]
    exact ⟨ck_220_0, ⟨ck_220_1, ⟨ck_220_2, ck_220_3⟩⟩⟩
  exact g
def fl_221 (es : List xI) : Bool := xchain yX10_go.cls cX10_go (fun b => ([0, 14, 20, 38, 48, 79, 82, 86, 87, 109, 136, 155, 158, 178, 181, 221, 224] : List Nat).getD b 0) 8 191 5 (Option.some Jvm.ClassFile.FieldType.int) (decide (yX10_go.name = "<init>")) (xhd es) es
theorem ck_221_0 : ((cd_221.drop 0).take 10).all fl_221 = true := by decide +kernel
theorem ck_221_1 : ((cd_221.drop 10).take 7).all fl_221 = true := by decide +kernel
theorem ck_221 : xmchk 221 cd_221 [0, 14, 20, 38, 48, 79, 82, 86, 87, 109, 136, 155, 158, 178, 181, 221, 224] = true := by
  have h : xmt[221]? = some (yX10_go, cX10_go, 5, (Option.some Jvm.ClassFile.FieldType.int), 8, 191) := rfl
  unfold xmchk
  rw [h]
  simp only [Bool.and_eq_true, decide_eq_true_eq]
  refine ⟨rfl, ?_⟩
  have e : cd_221 = ((cd_221.drop 0).take 10) ++ (((cd_221.drop 10).take 7)) := rfl
  have g : cd_221.all fl_221 = true := by
    rw [e]
    simp only [List.all_append, Bool.and_eq_true]
    exact ⟨ck_221_0, ck_221_1⟩
  exact g
theorem ck_222 : xmchk 222 cd_222 [0, 4, 20, 25, 47, 51, 52, 59, 65] = true := by decide +kernel
def fl_223 (es : List xI) : Bool := xchain yX10_about.cls cX10_about (fun b => ([0, 10, 22, 25, 28, 52, 57, 64, 69, 76, 77, 78, 94, 111, 128, 145, 154] : List Nat).getD b 0) 2 49 4 (Option.some Jvm.ClassFile.FieldType.int) (decide (yX10_about.name = "<init>")) (xhd es) es
theorem ck_223_0 : ((cd_223.drop 0).take 15).all fl_223 = true := by decide +kernel
theorem ck_223_1 : ((cd_223.drop 15).take 2).all fl_223 = true := by decide +kernel
theorem ck_223 : xmchk 223 cd_223 [0, 10, 22, 25, 28, 52, 57, 64, 69, 76, 77, 78, 94, 111, 128, 145, 154] = true := by
  have h : xmt[223]? = some (yX10_about, cX10_about, 4, (Option.some Jvm.ClassFile.FieldType.int), 2, 49) := rfl
  unfold xmchk
  rw [h]
  simp only [Bool.and_eq_true, decide_eq_true_eq]
  refine ⟨rfl, ?_⟩
  have e : cd_223 = ((cd_223.drop 0).take 15) ++ (((cd_223.drop 15).take 2)) := rfl
  have g : cd_223.all fl_223 = true := by
    rw [e]
    simp only [List.all_append, Bool.and_eq_true]
    exact ⟨ck_223_0, ck_223_1⟩
  exact g
theorem ck_224 : xmchk 224 cd_224 [0, 21, 36, 37] = true := by decide +kernel
theorem ck_225 : xmchk 225 cd_225 [0, 17, 26, 39, 49, 58, 60, 68] = true := by decide +kernel
theorem ck_226 : xmchk 226 cd_226 [0, 14, 20, 36, 55, 56] = true := by decide +kernel
theorem ck_227 : xmchk 227 cd_227 [0, 21, 33, 40, 43] = true := by decide +kernel
theorem ck_228 : xmchk 228 cd_228 [0, 7, 22, 54, 60, 66] = true := by decide +kernel
theorem ck_229 : xmchk 229 cd_229 [0, 12, 36] = true := by decide +kernel
theorem ck_230 : xmchk 230 cd_230 [0, 15, 17, 41] = true := by decide +kernel
theorem ck_231 : xmchk 231 cd_231 [0, 64, 66, 84, 92, 94, 102, 110, 118, 120, 137, 145, 147, 155, 162, 170, 177, 185] = true := by decide +kernel
theorem ck_232 : xmchk 232 cd_232 [0, 12, 13] = true := by decide +kernel
def fl_233 (es : List xI) : Bool := xchain yL_law.cls cL_law (fun b => ([0, 9, 12, 22, 25, 28, 160, 174, 188, 193, 217, 241, 246, 260, 274, 279, 293, 307, 312, 326, 340, 345, 354, 363, 368, 403, 438, 443, 452, 461, 466, 480, 494, 499, 508, 517, 522, 536, 550, 555, 564, 573, 578, 587, 596, 601, 619, 620, 623, 641, 642, 645, 650, 659, 668, 673, 682, 691, 696, 710, 724, 729, 738, 747, 752, 761, 770, 775, 799, 823, 828, 842, 856, 861, 880, 899, 904, 908, 912, 917, 921, 925, 930, 934, 938, 943, 952, 961, 966, 972] : List Nat).getD b 0) 9 215 4 (Option.some Jvm.ClassFile.FieldType.boolean) (decide (yL_law.name = "<init>")) (xhd es) es
theorem ck_233_0 : ((cd_233.drop 0).take 10).all fl_233 = true := by decide +kernel
theorem ck_233_1 : ((cd_233.drop 10).take 8).all fl_233 = true := by decide +kernel
theorem ck_233_2 : ((cd_233.drop 18).take 7).all fl_233 = true := by decide +kernel
theorem ck_233_3 : ((cd_233.drop 25).take 8).all fl_233 = true := by decide +kernel
theorem ck_233_4 : ((cd_233.drop 33).take 12).all fl_233 = true := by decide +kernel
theorem ck_233_5 : ((cd_233.drop 45).take 14).all fl_233 = true := by decide +kernel
theorem ck_233_6 : ((cd_233.drop 59).take 9).all fl_233 = true := by decide +kernel
theorem ck_233_7 : ((cd_233.drop 68).take 6).all fl_233 = true := by decide +kernel
theorem ck_233_8 : ((cd_233.drop 74).take 16).all fl_233 = true := by decide +kernel
theorem ck_233 : xmchk 233 cd_233 [0, 9, 12, 22, 25, 28, 160, 174, 188, 193, 217, 241, 246, 260, 274, 279, 293, 307, 312, 326, 340, 345, 354, 363, 368, 403, 438, 443, 452, 461, 466, 480, 494, 499, 508, 517, 522, 536, 550, 555, 564, 573, 578, 587, 596, 601, 619, 620, 623, 641, 642, 645, 650, 659, 668, 673, 682, 691, 696, 710, 724, 729, 738, 747, 752, 761, 770, 775, 799, 823, 828, 842, 856, 861, 880, 899, 904, 908, 912, 917, 921, 925, 930, 934, 938, 943, 952, 961, 966, 972] = true := by
  have h : xmt[233]? = some (yL_law, cL_law, 4, (Option.some Jvm.ClassFile.FieldType.boolean), 9, 215) := rfl
  unfold xmchk
  rw [h]
  simp only [Bool.and_eq_true, decide_eq_true_eq]
  refine ⟨rfl, ?_⟩
  have e : cd_233 = ((cd_233.drop 0).take 10) ++ (((cd_233.drop 10).take 8) ++ (((cd_233.drop 18).take 7) ++ (((cd_233.drop 25).take 8) ++ (((cd_233.drop 33).take 12) ++ (((cd_233.drop 45).take 14) ++ (((cd_233.drop 59).take 9) ++ (((cd_233.drop 68).take 6) ++ (((cd_233.drop 74).take 16))))))))) := rfl
  have g : cd_233.all fl_233 = true := by
    rw [e]
    simp only [List.all_append, Bool.and_eq_true]
    exact ⟨ck_233_0, ⟨ck_233_1, ⟨ck_233_2, ⟨ck_233_3, ⟨ck_233_4, ⟨ck_233_5, ⟨ck_233_6, ⟨ck_233_7, ck_233_8⟩⟩⟩⟩⟩⟩⟩⟩
  exact g
theorem xall_ck {mi : Nat} {blks : List (List xI)} (h : xprog[mi]? = some blks) : ∃ pcs, xmchk mi blks pcs = true := by
  match mi, h with
  | 0, h => cases h; exact ⟨_, ck_0⟩
  | 1, h => cases h; exact ⟨_, ck_1⟩
  | 2, h => cases h; exact ⟨_, ck_2⟩
  | 3, h => cases h; exact ⟨_, ck_3⟩
  | 4, h => cases h; exact ⟨_, ck_4⟩
  | 5, h => cases h; exact ⟨_, ck_5⟩
  | 6, h => cases h; exact ⟨_, ck_6⟩
  | 7, h => cases h; exact ⟨_, ck_7⟩
  | 8, h => cases h; exact ⟨_, ck_8⟩
  | 9, h => cases h; exact ⟨_, ck_9⟩
  | 10, h => cases h; exact ⟨_, ck_10⟩
  | 11, h => cases h; exact ⟨_, ck_11⟩
  | 12, h => cases h; exact ⟨_, ck_12⟩
  | 13, h => cases h; exact ⟨_, ck_13⟩
  | 14, h => cases h; exact ⟨_, ck_14⟩
  | 15, h => cases h; exact ⟨_, ck_15⟩
  | 16, h => cases h; exact ⟨_, ck_16⟩
  | 17, h => cases h; exact ⟨_, ck_17⟩
  | 18, h => cases h; exact ⟨_, ck_18⟩
  | 19, h => cases h; exact ⟨_, ck_19⟩
  | 20, h => cases h; exact ⟨_, ck_20⟩
  | 21, h => cases h; exact ⟨_, ck_21⟩
  | 22, h => cases h; exact ⟨_, ck_22⟩
  | 23, h => cases h; exact ⟨_, ck_23⟩
  | 24, h => cases h; exact ⟨_, ck_24⟩
  | 25, h => cases h; exact ⟨_, ck_25⟩
  | 26, h => cases h; exact ⟨_, ck_26⟩
  | 27, h => cases h; exact ⟨_, ck_27⟩
  | 28, h => cases h; exact ⟨_, ck_28⟩
  | 29, h => cases h; exact ⟨_, ck_29⟩
  | 30, h => cases h; exact ⟨_, ck_30⟩
  | 31, h => cases h; exact ⟨_, ck_31⟩
  | 32, h => cases h; exact ⟨_, ck_32⟩
  | 33, h => cases h; exact ⟨_, ck_33⟩
  | 34, h => cases h; exact ⟨_, ck_34⟩
  | 35, h => cases h; exact ⟨_, ck_35⟩
  | 36, h => cases h; exact ⟨_, ck_36⟩
  | 37, h => cases h; exact ⟨_, ck_37⟩
  | 38, h => cases h; exact ⟨_, ck_38⟩
  | 39, h => cases h; exact ⟨_, ck_39⟩
  | 40, h => cases h; exact ⟨_, ck_40⟩
  | 41, h => cases h; exact ⟨_, ck_41⟩
  | 42, h => cases h; exact ⟨_, ck_42⟩
  | 43, h => cases h; exact ⟨_, ck_43⟩
  | 44, h => cases h; exact ⟨_, ck_44⟩
  | 45, h => cases h; exact ⟨_, ck_45⟩
  | 46, h => cases h; exact ⟨_, ck_46⟩
  | 47, h => cases h; exact ⟨_, ck_47⟩
  | 48, h => cases h; exact ⟨_, ck_48⟩
  | 49, h => cases h; exact ⟨_, ck_49⟩
  | 50, h => cases h; exact ⟨_, ck_50⟩
  | 51, h => cases h; exact ⟨_, ck_51⟩
  | 52, h => cases h; exact ⟨_, ck_52⟩
  | 53, h => cases h; exact ⟨_, ck_53⟩
  | 54, h => cases h; exact ⟨_, ck_54⟩
  | 55, h => cases h; exact ⟨_, ck_55⟩
  | 56, h => cases h; exact ⟨_, ck_56⟩
  | 57, h => cases h; exact ⟨_, ck_57⟩
  | 58, h => cases h; exact ⟨_, ck_58⟩
  | 59, h => cases h; exact ⟨_, ck_59⟩
  | 60, h => cases h; exact ⟨_, ck_60⟩
  | 61, h => cases h; exact ⟨_, ck_61⟩
  | 62, h => cases h; exact ⟨_, ck_62⟩
  | 63, h => cases h; exact ⟨_, ck_63⟩
  | 64, h => cases h; exact ⟨_, ck_64⟩
  | 65, h => cases h; exact ⟨_, ck_65⟩
  | 66, h => cases h; exact ⟨_, ck_66⟩
  | 67, h => cases h; exact ⟨_, ck_67⟩
  | 68, h => cases h; exact ⟨_, ck_68⟩
  | 69, h => cases h; exact ⟨_, ck_69⟩
  | 70, h => cases h; exact ⟨_, ck_70⟩
  | 71, h => cases h; exact ⟨_, ck_71⟩
  | 72, h => cases h; exact ⟨_, ck_72⟩
  | 73, h => cases h; exact ⟨_, ck_73⟩
  | 74, h => cases h; exact ⟨_, ck_74⟩
  | 75, h => cases h; exact ⟨_, ck_75⟩
  | 76, h => cases h; exact ⟨_, ck_76⟩
  | 77, h => cases h; exact ⟨_, ck_77⟩
  | 78, h => cases h; exact ⟨_, ck_78⟩
  | 79, h => cases h; exact ⟨_, ck_79⟩
  | 80, h => cases h; exact ⟨_, ck_80⟩
  | 81, h => cases h; exact ⟨_, ck_81⟩
  | 82, h => cases h; exact ⟨_, ck_82⟩
  | 83, h => cases h; exact ⟨_, ck_83⟩
  | 84, h => cases h; exact ⟨_, ck_84⟩
  | 85, h => cases h; exact ⟨_, ck_85⟩
  | 86, h => cases h; exact ⟨_, ck_86⟩
  | 87, h => cases h; exact ⟨_, ck_87⟩
  | 88, h => cases h; exact ⟨_, ck_88⟩
  | 89, h => cases h; exact ⟨_, ck_89⟩
  | 90, h => cases h; exact ⟨_, ck_90⟩
  | 91, h => cases h; exact ⟨_, ck_91⟩
  | 92, h => cases h; exact ⟨_, ck_92⟩
  | 93, h => cases h; exact ⟨_, ck_93⟩
  | 94, h => cases h; exact ⟨_, ck_94⟩
  | 95, h => cases h; exact ⟨_, ck_95⟩
  | 96, h => cases h; exact ⟨_, ck_96⟩
  | 97, h => cases h; exact ⟨_, ck_97⟩
  | 98, h => cases h; exact ⟨_, ck_98⟩
  | 99, h => cases h; exact ⟨_, ck_99⟩
  | 100, h => cases h; exact ⟨_, ck_100⟩
  | 101, h => cases h; exact ⟨_, ck_101⟩
  | 102, h => cases h; exact ⟨_, ck_102⟩
  | 103, h => cases h; exact ⟨_, ck_103⟩
  | 104, h => cases h; exact ⟨_, ck_104⟩
  | 105, h => cases h; exact ⟨_, ck_105⟩
  | 106, h => cases h; exact ⟨_, ck_106⟩
  | 107, h => cases h; exact ⟨_, ck_107⟩
  | 108, h => cases h; exact ⟨_, ck_108⟩
  | 109, h => cases h; exact ⟨_, ck_109⟩
  | 110, h => cases h; exact ⟨_, ck_110⟩
  | 111, h => cases h; exact ⟨_, ck_111⟩
  | 112, h => cases h; exact ⟨_, ck_112⟩
  | 113, h => cases h; exact ⟨_, ck_113⟩
  | 114, h => cases h; exact ⟨_, ck_114⟩
  | 115, h => cases h; exact ⟨_, ck_115⟩
  | 116, h => cases h; exact ⟨_, ck_116⟩
  | 117, h => cases h; exact ⟨_, ck_117⟩
  | 118, h => cases h; exact ⟨_, ck_118⟩
  | 119, h => cases h; exact ⟨_, ck_119⟩
  | 120, h => cases h; exact ⟨_, ck_120⟩
  | 121, h => cases h; exact ⟨_, ck_121⟩
  | 122, h => cases h; exact ⟨_, ck_122⟩
  | 123, h => cases h; exact ⟨_, ck_123⟩
  | 124, h => cases h; exact ⟨_, ck_124⟩
  | 125, h => cases h; exact ⟨_, ck_125⟩
  | 126, h => cases h; exact ⟨_, ck_126⟩
  | 127, h => cases h; exact ⟨_, ck_127⟩
  | 128, h => cases h; exact ⟨_, ck_128⟩
  | 129, h => cases h; exact ⟨_, ck_129⟩
  | 130, h => cases h; exact ⟨_, ck_130⟩
  | 131, h => cases h; exact ⟨_, ck_131⟩
  | 132, h => cases h; exact ⟨_, ck_132⟩
  | 133, h => cases h; exact ⟨_, ck_133⟩
  | 134, h => cases h; exact ⟨_, ck_134⟩
  | 135, h => cases h; exact ⟨_, ck_135⟩
  | 136, h => cases h; exact ⟨_, ck_136⟩
  | 137, h => cases h; exact ⟨_, ck_137⟩
  | 138, h => cases h; exact ⟨_, ck_138⟩
  | 139, h => cases h; exact ⟨_, ck_139⟩
  | 140, h => cases h; exact ⟨_, ck_140⟩
  | 141, h => cases h; exact ⟨_, ck_141⟩
  | 142, h => cases h; exact ⟨_, ck_142⟩
  | 143, h => cases h; exact ⟨_, ck_143⟩
  | 144, h => cases h; exact ⟨_, ck_144⟩
  | 145, h => cases h; exact ⟨_, ck_145⟩
  | 146, h => cases h; exact ⟨_, ck_146⟩
  | 147, h => cases h; exact ⟨_, ck_147⟩
  | 148, h => cases h; exact ⟨_, ck_148⟩
  | 149, h => cases h; exact ⟨_, ck_149⟩
  | 150, h => cases h; exact ⟨_, ck_150⟩
  | 151, h => cases h; exact ⟨_, ck_151⟩
  | 152, h => cases h; exact ⟨_, ck_152⟩
  | 153, h => cases h; exact ⟨_, ck_153⟩
  | 154, h => cases h; exact ⟨_, ck_154⟩
  | 155, h => cases h; exact ⟨_, ck_155⟩
  | 156, h => cases h; exact ⟨_, ck_156⟩
  | 157, h => cases h; exact ⟨_, ck_157⟩
  | 158, h => cases h; exact ⟨_, ck_158⟩
  | 159, h => cases h; exact ⟨_, ck_159⟩
  | 160, h => cases h; exact ⟨_, ck_160⟩
  | 161, h => cases h; exact ⟨_, ck_161⟩
  | 162, h => cases h; exact ⟨_, ck_162⟩
  | 163, h => cases h; exact ⟨_, ck_163⟩
  | 164, h => cases h; exact ⟨_, ck_164⟩
  | 165, h => cases h; exact ⟨_, ck_165⟩
  | 166, h => cases h; exact ⟨_, ck_166⟩
  | 167, h => cases h; exact ⟨_, ck_167⟩
  | 168, h => cases h; exact ⟨_, ck_168⟩
  | 169, h => cases h; exact ⟨_, ck_169⟩
  | 170, h => cases h; exact ⟨_, ck_170⟩
  | 171, h => cases h; exact ⟨_, ck_171⟩
  | 172, h => cases h; exact ⟨_, ck_172⟩
  | 173, h => cases h; exact ⟨_, ck_173⟩
  | 174, h => cases h; exact ⟨_, ck_174⟩
  | 175, h => cases h; exact ⟨_, ck_175⟩
  | 176, h => cases h; exact ⟨_, ck_176⟩
  | 177, h => cases h; exact ⟨_, ck_177⟩
  | 178, h => cases h; exact ⟨_, ck_178⟩
  | 179, h => cases h; exact ⟨_, ck_179⟩
  | 180, h => cases h; exact ⟨_, ck_180⟩
  | 181, h => cases h; exact ⟨_, ck_181⟩
  | 182, h => cases h; exact ⟨_, ck_182⟩
  | 183, h => cases h; exact ⟨_, ck_183⟩
  | 184, h => cases h; exact ⟨_, ck_184⟩
  | 185, h => cases h; exact ⟨_, ck_185⟩
  | 186, h => cases h; exact ⟨_, ck_186⟩
  | 187, h => cases h; exact ⟨_, ck_187⟩
  | 188, h => cases h; exact ⟨_, ck_188⟩
  | 189, h => cases h; exact ⟨_, ck_189⟩
  | 190, h => cases h; exact ⟨_, ck_190⟩
  | 191, h => cases h; exact ⟨_, ck_191⟩
  | 192, h => cases h; exact ⟨_, ck_192⟩
  | 193, h => cases h; exact ⟨_, ck_193⟩
  | 194, h => cases h; exact ⟨_, ck_194⟩
  | 195, h => cases h; exact ⟨_, ck_195⟩
  | 196, h => cases h; exact ⟨_, ck_196⟩
  | 197, h => cases h; exact ⟨_, ck_197⟩
  | 198, h => cases h; exact ⟨_, ck_198⟩
  | 199, h => cases h; exact ⟨_, ck_199⟩
  | 200, h => cases h; exact ⟨_, ck_200⟩
  | 201, h => cases h; exact ⟨_, ck_201⟩
  | 202, h => cases h; exact ⟨_, ck_202⟩
  | 203, h => cases h; exact ⟨_, ck_203⟩
  | 204, h => cases h; exact ⟨_, ck_204⟩
  | 205, h => cases h; exact ⟨_, ck_205⟩
  | 206, h => cases h; exact ⟨_, ck_206⟩
  | 207, h => cases h; exact ⟨_, ck_207⟩
  | 208, h => cases h; exact ⟨_, ck_208⟩
  | 209, h => cases h; exact ⟨_, ck_209⟩
  | 210, h => cases h; exact ⟨_, ck_210⟩
  | 211, h => cases h; exact ⟨_, ck_211⟩
  | 212, h => cases h; exact ⟨_, ck_212⟩
  | 213, h => cases h; exact ⟨_, ck_213⟩
  | 214, h => cases h; exact ⟨_, ck_214⟩
  | 215, h => cases h; exact ⟨_, ck_215⟩
  | 216, h => cases h; exact ⟨_, ck_216⟩
  | 217, h => cases h; exact ⟨_, ck_217⟩
  | 218, h => cases h; exact ⟨_, ck_218⟩
  | 219, h => cases h; exact ⟨_, ck_219⟩
  | 220, h => cases h; exact ⟨_, ck_220⟩
  | 221, h => cases h; exact ⟨_, ck_221⟩
  | 222, h => cases h; exact ⟨_, ck_222⟩
  | 223, h => cases h; exact ⟨_, ck_223⟩
  | 224, h => cases h; exact ⟨_, ck_224⟩
  | 225, h => cases h; exact ⟨_, ck_225⟩
  | 226, h => cases h; exact ⟨_, ck_226⟩
  | 227, h => cases h; exact ⟨_, ck_227⟩
  | 228, h => cases h; exact ⟨_, ck_228⟩
  | 229, h => cases h; exact ⟨_, ck_229⟩
  | 230, h => cases h; exact ⟨_, ck_230⟩
  | 231, h => cases h; exact ⟨_, ck_231⟩
  | 232, h => cases h; exact ⟨_, ck_232⟩
  | 233, h => cases h; exact ⟨_, ck_233⟩
  | n + 234, h => exact absurd (List.getElem?_eq_some_iff.mp h).1 (by rw [show xprog.length = 234 from rfl]; omega)
theorem heads_getD : ∀ (l : List (List xI)) (b : Nat), (l.map xhd).getD b 0 = xhd ((l[b]?).getD []) := by
  intro l
  induction l with
  | nil => intro b; rfl
  | cons x l ih =>
    intro b
    cases b with
    | zero => rfl
    | succ b => exact ih b
theorem xchk_at {mi : Nat} {t : xT} (ht : xmt[mi]? = some t) (b : Nat) : xchain t.1.cls t.2.1 (xpb mi) t.2.2.2.2.1 t.2.2.2.2.2 t.2.2.1 t.2.2.2.1 (decide (t.1.name = "<init>")) (xpb mi b) (xcd mi b) = true := by
  cases hb : xprog[mi]? with
  | none =>
    have e : xcd mi b = [] := by unfold xcd; rw [hb]; rfl
    rw [e]
    rfl
  | some blks =>
    obtain ⟨pcs, hp⟩ := xall_ck hb
    unfold xmchk at hp
    rw [ht] at hp
    simp only [Bool.and_eq_true, decide_eq_true_eq] at hp
    obtain ⟨h1, h2⟩ := hp
    have e : ∀ b, xcd mi b = (blks[b]?).getD [] := fun b => by unfold xcd; rw [hb]; rfl
    have hpb : (fun b => pcs.getD b 0) = xpb mi := by
      funext b
      rw [← h1, heads_getD]
      unfold xpb
      rw [e b]
    rw [hpb] at h2
    unfold xpb
    rw [e b]
    cases hbb : blks[b]? with
    | none => rfl
    | some es =>
      exact List.all_eq_true.mp h2 es (List.mem_of_getElem? hbb)
end
section
/-! a run of the interpreter is a run of the machine: methods, and the law -/
theorem lv_args_mem {ad : Nat → Nat} {b : Nat} : ∀ (as : List xV) (k i : Nat) (v : xV), (xlo as)[i]? = some v → v ≠ vN → (k + i, xv ad b v) ∈ lv_args k (as.map (xv ad b)) := by
  intro as
  induction as with
  | nil => intro k i v h hv; cases h
  | cons u as ih =>
    intro k i v h hv
    have one : xcat u = 1 → (u :: xlo as)[i]? = some v → (k + i, xv ad b v) ∈ lv_args k ((u :: as).map (xv ad b)) := by
      intro hc h
      have hc2 : (xv ad b u).category = 1 := by rw [xv_cat]; exact hc
      show _ ∈ (k, xv ad b u) :: lv_args (if (xv ad b u).category = 2 then k + 2 else k + 1) (as.map (xv ad b))
      rw [if_neg (by rw [hc2]; decide)]
      cases i with
      | zero =>
        cases h
        exact List.mem_cons_self
      | succ i =>
        have := ih (k + 1) i v h hv
        rw [show k + 1 + i = k + (i + 1) by omega] at this
        exact List.mem_cons_of_mem _ this
    match u, h, one with
    | .inl x, h, one => exact one rfl h
    | .inr (.inr x), h, one => exact one rfl h
    | .inr (.inl x), h, one =>
      have h : (Sum.inr (Sum.inl x) :: vN :: xlo as)[i]? = some v := h
      show _ ∈ (k, xv ad b (Sum.inr (Sum.inl x))) :: lv_args (k + 2) (as.map (xv ad b))
      match i, h with
      | 0, h => cases h; exact List.mem_cons_self
      | 1, h => cases h; exact absurd rfl hv
      | i + 2, h =>
        have := ih (k + 2) i v h hv
        rw [show k + 2 + i = k + (i + 2) by omega] at this
        exact List.mem_cons_of_mem _ this
theorem xlo_len {ad : Nat → Nat} {b : Nat} (as : List xV) : (lg_sl (as.map (xv ad b))).length = (xlo as).length := by
  induction as with
  | nil => rfl
  | cons u as ih =>
    have e1 : lg_sl ((u :: as).map (xv ad b)) = (if (xv ad b u).category = 2 then [Slot.val (xv ad b u), .second] else [Slot.val (xv ad b u)]) ++ lg_sl (as.map (xv ad b)) := rfl
    rw [e1, List.length_append, ih]
    match u with
    | .inl x => show 1 + (xlo as).length = (xlo as).length + 1; omega
    | .inr (.inr (.inl x)) => show 1 + (xlo as).length = (xlo as).length + 1; omega
    | .inr (.inr (.inr true)) => show 1 + (xlo as).length = (xlo as).length + 1; omega
    | .inr (.inr (.inr false)) => show 1 + (xlo as).length = (xlo as).length + 1; omega
    | .inr (.inl x) => show 2 + (xlo as).length = (xlo as).length + 1 + 1; omega
theorem xlh_entry {ad : Nat → Nat} {b n : Nat} {as : List xV} (h : (xlo as).length ≤ n) : xlh ((lg_sl (as.map (xv ad b)) ++ List.replicate (n - (lg_sl (as.map (xv ad b))).length) Slot.unset).toArray) n ad b (xloc n as) := by
  have hl := lv_entry (as.map (xv ad b)) (n := n) (by rw [xlo_len]; exact h)
  refine ⟨hl.1, hl.2.1, fun i v hi hv => ?_⟩
  unfold xloc at hi
  by_cases hc : i < (xlo as).length
  · rw [List.getElem?_append_left hc] at hi
    have := lv_args_mem (ad := ad) (b := b) as 0 i v hi hv
    rw [Nat.zero_add] at this
    exact hl.2.2 _ this
  · rw [List.getElem?_append_right (by omega), List.getElem?_replicate] at hi
    split at hi
    · cases hi; exact absurd rfl hv
    · cases hi
theorem xlo_ok {n : Nat} {as : List xV} (h : ∀ v ∈ as, xvo n v) : ∀ v ∈ xlo as, xvo n v := by
  intro v hv
  obtain ⟨u, hu, hv⟩ := List.mem_flatMap.mp hv
  match u, hv with
  | .inl x, hv => rw [List.mem_singleton.mp hv]; exact h _ hu
  | .inr (.inr x), hv => rw [List.mem_singleton.mp hv]; exact h _ hu
  | .inr (.inl x), hv =>
    rcases List.mem_cons.mp hv with e | e
    · rw [e]; exact h _ hu
    · rw [List.mem_singleton.mp e]; trivial
theorem xloc_ok {n k : Nat} {as : List xV} (h : ∀ v ∈ as, xvo n v) : ∀ v ∈ xloc k as, xvo n v := by
  intro v hv
  rcases List.mem_append.mp hv with e | e
  · exact xlo_ok h v e
  · rw [(List.mem_replicate.mp e).2]; trivial
theorem xpb0_all : (List.range 234).all (fun a => xpb a 0 == 0) = true := by decide +kernel
theorem xpb0 (a : Nat) : xpb a 0 = 0 := by
  by_cases h : a < 234
  · exact beq_iff_eq.mp (List.all_eq_true.mp xpb0_all a (List.mem_range.mpr h))
  · have e : xprog[a]? = none := List.getElem?_eq_none (by rw [show xprog.length = 234 from rfl]; omega)
    unfold xpb xcd
    rw [e]
    rfl
theorem xnl_of {a : Nat} {t : xT} (ht : xmt[a]? = some t) : xnl a = t.2.2.1 := by unfold xnl; rw [ht]
theorem xmk_get : ∀ (m : List Bool) (L : List xV) (i : Nat) (v : xV), (xmk m L)[i]? = some v → v ≠ vN → L[i]? = some v := by
  intro m
  induction m with
  | nil => intro L i v h hv; cases L <;> cases h
  | cons x m ih =>
    intro L i v h hv
    cases L with
    | nil => cases x <;> cases h
    | cons u L =>
      cases x with
      | true =>
        cases i with
        | zero => exact h
        | succ i => exact ih L i v h hv
      | false =>
        cases i with
        | zero => exact absurd (Option.some.inj h).symm hv
        | succ i => exact ih L i v h hv
theorem xlh.mask {ls : Array Slot} {nL : Nat} {ad : Nat → Nat} {b : Nat} {L : List xV} {m : List Bool} (h : xlh ls nL ad b L) : xlh ls nL ad b (xmk m L) := ⟨h.1, h.2.1, fun i v hi hv => h.2.2 i v (xmk_get m L i v hi hv) hv⟩
theorem xmk_ok {n : Nat} {L : List xV} {m : List Bool} (h : ∀ v ∈ L, xvo n v) : ∀ v ∈ xmk m L, xvo n v := by
  intro v hv
  by_cases e : v = vN
  · rw [e]; trivial
  · obtain ⟨i, hi⟩ := List.getElem?_of_mem hv
    exact h v (List.mem_of_getElem? (xmk_get m L i v hi e))
def xSnd (l : Launch) (Ls : Nat) (xs : Nat → Int32) (n : Nat) : Prop := ∀ (mi b : Nat) (L S : List xV) (σ : xS) (r : xR), xrun (Ls, fun i => (xs i).toInt) xcd xnl xmkt n mi b L S σ = some r → ∀ (t : xT), xmt[mi]? = some t →
  ∀ (p : Program) (e : Env) (R : Room) (s : State) (m : MethodId) (args : Array Value) (below : List Frame) (meth : Method) (c : Code) (Q : State → Prop) (D : va_G) (cA : ClassId) (b0 z n0 s0 : Nat) (ad0 : Nat → Nat), xC p s m c t.1.cls t.2.1 t.2.2.1 D cA b0 Ls xs z → (t.1.name = "<init>" → meth.name = "<init>") → (t.2.2.2.2.1 ≤ R.frames ∧ t.2.2.2.2.2 ≤ R.locals) → (r.2.1.length ≤ R.cells + n0 ∧ xsz r.2.1 ≤ R.slots + s0) →
  xRetI p l e R s m args below meth c Q t.2.1 t.2.2.2.1 D cA z n0 s0 ad0 r → xRetV p l e R s m args below meth c Q t.2.1 t.2.2.2.1 D cA z n0 s0 ad0 r → xGo p l e R s m args below meth c Q t.2.2.1 D cA b0 z n0 s0 ad0 (xpb mi b) L S σ
theorem xmet_of {l : Launch} {Ls : Nat} {xs : Nat → Int32} {n : Nat} (hLs : Ls ≤ 100000) (ih : xSnd l Ls xs n) {a : Nat} {as : List xV} {σ : xS} {q : xR} (hfit : (xlo as).length ≤ xnl a) (hr : xrun (Ls, fun i => (xs i).toInt) xcd xnl xmkt n a 0 (xloc (xnl a) as) [] σ = some q) : xMet l Ls xs a as σ q := by
  intro t ht D cA b z ad hso hvo
  have hszq := xrun_sz _ _ _ _ _ _ _ hr
  rw [xnl_of ht] at hfit hr
  have hpb : xpb a 0 = 0 := xpb0 a
  refine Met.ofW (cc := t.2.1) (maxL := t.2.2.1) (ret := t.2.2.2.1) (xfact ht).1 rfl ?_
  intro p e s m args below meth c s₁ B hml hv
  obtain ⟨rfl, hP, hK, hD, hX, hbz, hzs, hT⟩ := hv
  have hlocks := B.notSynchronized
  have C : xC p s m c t.1.cls t.2.1 t.2.2.1 D cA b Ls xs z := ⟨B.exec, B.bytes, hml, findClass_of_methodNamed B.named, hT, hK, hX, hbz, hzs, hLs⟩
  have hn := (name_of_methodNamed B.named B.method).1
  have G := ih a 0 _ [] σ q hr t ht p e (headSpec [Jvm.Cond.code t.1 t.2.1 t.2.2.1 t.2.2.2.1] (xrm t σ q)).room s m ((as.map (xv ad b)).toArray) below meth c (MQ below (xQ D cA z σ.1.length ad q) ((as.map (xv ad b)).toArray) s (q.2.1.length - σ.1.length) (xsz q.2.1 - xsz σ.1) (fun k => z ≤ k)) D cA b z σ.1.length (xsz σ.1) ad C (fun h => hn.trans h) ⟨Nat.le_refl _, Nat.le_refl _⟩ ⟨by show _ ≤ (q.2.1.length - σ.1.length) + _; omega, by show _ ≤ (xsz q.2.1 - xsz σ.1) + _; omega⟩ ?_ ?_
  · rw [hpb] at G
    rw [lg_entry_eq]
    exact G ad s.heap [] _ 0 0 hP hD va_S.rf (xlh_entry hfit) hso (xloc_ok hvo) (fun v hv => by cases hv) (fun k _ => rfl) (Nat.le_refl _) (by omega) (by omega)
  · intro x σ' ad' H locs ls cells slots pc hq hdg hrt hx32 hP hD hS hso' had hn0 hce hsl
    subst hq
    have e1 : σ'.1.length - σ.1.length = cells := by omega
    have e2 : xsz σ'.1 - xsz σ.1 = slots := by omega
    rw [e1, e2]
    have post : ∀ t' : State, t'.heap = H → s.WarmedH t'.vm → xQ D cA z σ.1.length ad (some (.inl x), σ') ((as.map (xv ad b)).toArray) s (.returned (some (.int (Int32.ofInt x)))) t' :=
      fun t' ht' hW => ⟨⟨Int32.ofInt x, ad', rfl, ⟨⟨rfl, hx32⟩, had⟩, by rw [ht']; exact hP, hD, hso'⟩, hS.F ht'⟩
    rcases hrt with ⟨h1, h2⟩ | h1
    · refine W.zret (ty := .boolean) B.exec B.bytes (B.returns.trans h1) ?_ post hS.2.2 hdg hlocks
      rcases h2 with rfl | rfl <;> decide +kernel
    · exact W.iret B.exec B.bytes (B.returns.trans h1) post hS.2.2 hdg hlocks
  · intro σ' ad' H locs ls cells slots pc hq hdg hrt hP hD hS hso' had hn0 hce hsl
    subst hq
    have e1 : σ'.1.length - σ.1.length = cells := by omega
    have e2 : xsz σ'.1 - xsz σ.1 = slots := by omega
    rw [e1, e2]
    exact W.vret B.exec B.bytes (B.returns.trans hrt) (fun t' ht' hW => ⟨⟨ad', rfl, had, by rw [ht']; exact hP, hD, hso'⟩, hS.F ht'⟩) hS.2.2 hdg hlocks
theorem xsnd {l : Launch} {Ls : Nat} {xs : Nat → Int32} (hLs : Ls ≤ 100000) : ∀ n, xSnd l Ls xs n := by
  intro n
  induction n with
  | zero => intro mi b L S σ r h; cases h
  | succ n ih =>
    intro mi b L S σ r h t ht p e R s m args below meth c Q D cA b0 z n0 s0 ad0 C hini hR hcap hrI hrV
    unfold xrun at h
    exact xblk_go C (fun h => hini (of_decide_eq_true h)) hR (fun b' L' S' σ' g ad H locs ls cells slots hP hD hS hl hso hL hSo had hn hce hsl => ih mi b' _ S' σ' r g t ht p e R s m args below meth c Q D cA b0 z n0 s0 ad0 C hini hR hcap hrI hrV ad H locs ls cells slots hP hD hS hl.mask hso (xmk_ok hL) hSo had hn hce hsl) (fun b' L' S' σ' g => xrun_sz _ _ _ _ _ _ _ g) (fun a as σ q g => xrun_sz _ _ _ _ _ _ _ (xen_of g).2) (fun a as σ q ha g => xmet_of hLs ih (xen_of g).1 (xen_of g).2) hcap hrI hrV _ _ (xchk_at ht b) L S σ h
end
section
/-! the law: what it owes, and how a run of the interpreter gives it (its first definitions are the skeleton's, a starting text) -/
def R_law : String := "MergeLineLaw"
def lw_P (b : Addr) (xs : List Int32) (args : Array Value) (s : State) : Prop := args = #[.ref b] ∧ s.IntsAt b xs ∧ xs.length ≤ 3585 ∧ (Jvm.Cond.and given_1 narrow_1).before args s = true
def lw_Q (_ : Array Value) (s : State) (o : Outcome) (t : State) : Prop := o = .returned (some (.int 1)) ∧ Framed s o t [] 600000 7302250
def lw_Z (below : List Frame) (a : Array Value) (s : State) : State → Prop := fun t => ∃ o, t.status = .running ∧ Ended t below o ∧ lw_Q a s o t
/-- the law's own end, with 1 on the stack, nothing written that was there before, its room as the claim has it -/
theorem lw_ret {p : Program} {l : Launch} {e : Env} {s : State} {m : MethodId} {below : List Frame} {meth : Method} {c : Code} {b : Nat} (hx : p.tables.exec = Jvm.exec) (hb : c.code = code) (hr : meth.sig.returnType = ret) (hlocks : meth.locks = false) {pc : Nat} {H : Heap} {ls : Array Slot} (hdg : decode code pc = .ok (.ireturn, 1)) : W p l e room_1 s m #[Value.ref b] below meth c H [] 600000 7302250 (lw_Z below #[Value.ref b] s) (F0 m pc ls [.int 1]) := by
  intro T hT X
  obtain ⟨fs, hret, hrun, hended, hW, hframe⟩ := X.leave (v := some (.int 1)) (hlocks := hlocks) (fun h => by rw [hr] at h; cases h)
  have hmeth' : T.vm.method? m = some meth := X.method'
  refine ⟨T.setFrames fs, ?_, .returned (some (.int 1)), hrun, hended, rfl, ⟨_, rfl⟩, hW, hframe⟩
  jvm_step X.here [X.here.top, hx, hb, hdg, hmeth', hr, ret, narrow_b1]
  (try refine ⟨rfl, ?_⟩); (try refine ⟨rfl, ?_⟩)
  first | (intro acts; rw [hret _ acts rfl rfl rfl]) | rw [hret _ _ rfl rfl rfl]
  exact Steps.refl _
/-- what holds at the law's entry: the machine, the code, the tables' words (any of lw_tbl by 'hts w (by decide +kernel)'), the script of L ints xs at the cell b, what the Statement gives of the start (any of its parts by flat_of_before) -/
def lw_At (p : Program) (s : State) (m : MethodId) (meth : Method) (c : Code) (b L : Nat) (xs : Nat → Int32) : Prop :=
  p.tables.exec = Jvm.exec ∧ c.code = code ∧ meth.sig.returnType = ret ∧ c.maxLocals = 4 ∧ s.vm.findClass R_law = some m.cls ∧ (∀ w ∈ lw_tbl, w.before #[Value.ref b] s = true) ∧ va_X b L xs s s.heap ∧ b < s.heap.size ∧ meth.locks = false ∧ (Jvm.Cond.and given_1 narrow_1).before #[Value.ref b] s = true

theorem xTb_of {s : State} {A : Array Value} (h : ∀ w ∈ lw_tbl, w.before A s = true) : xTb s := by
  intro w hw hg a
  rcases Bool.or_eq_true_iff.mp hg with h2 | h2
  · exact word_at (State.WarmedH.refl s) (good_of_word h2) (h w hw)
  · match w, h2 with
    | .fieldLinkNest c i r n d ho, _ => exact va_Nw.use rfl (va_Nw.of rfl (h _ hw))
    | .methodLinkNest c i x ho, _ => exact va_Nw.use rfl (va_Nw.of rfl (h _ hw))
theorem xK_of {s : State} (hT : xTb s) : ∃ (D : va_G) (cA : ClassId), va_K D vwCl [(cA, .int)] s := by
  have hk : ∀ k : Nat, ∃ (cC : ClassId) (iS : Nat → Nat), ∀ q : vw_C, vwCl[k]? = some q → u_Kn s q.1 q.2.1 q.2.2 cC iS := by
    intro k
    cases h : vwCl[k]? with
    | none => exact ⟨0, fun _ => 0, fun q hq => by cases hq⟩
    | some q =>
      obtain ⟨C0, TT, N⟩ := q
      have hg := xgood_of h
      obtain ⟨cC, iS, hu⟩ := u_known (C := C0) (T := TT) (N := N) (n := N) (hT.all #[]) hg.1 (hT _ (xw_new h).1 rfl #[])
      exact ⟨cC, iS, fun q hq => by cases hq; exact hu⟩
  obtain ⟨cA, kA, comp, h1, h2, h3⟩ := Cond.arrayClass_spec (type := .int) (show (Cond.arrayClass .int).before #[] s = true from hT _ xw_arr rfl #[])
  refine ⟨(fun k => Classical.choose (hk k), fun k => Classical.choose (Classical.choose_spec (hk k))), cA, fun k q hq => Classical.choose_spec (Classical.choose_spec (hk k)) q hq, fun k q hq => ?_⟩
  have hz : k < 1 := (List.getElem?_eq_some_iff.mp hq).1
  rw [show k = 0 by omega] at hq
  cases hq
  exact ⟨fun n z => ⟨fun k h => (by cases h), kA, h2, comp, h3⟩, h1⟩
/-- the law's end out of a run of the interpreter -/
theorem whole_of_xat {p : Program} {e : Env} {s : State} {m : MethodId} {below : List Frame} {meth : Method} {c : Code} (l : Launch) {b L : Nat} {xs : Nat → Int32} (hL : L ≤ 3585) (C0 : lw_At p s m meth c b L xs) {σ' : xS}
    (hx : xat (L, fun i => (xs i).toInt) xcd xnl xmkt 233 0 (xloc 4 [vS]) [] ([], fun _ _ => 0) = some (some (vI 1), σ')) (hcap : σ'.1.length ≤ 600000 ∧ xsz σ'.1 ≤ 7302250) :
    W p l e room_1 s m #[Value.ref b] below meth c s.heap [] 0 0 (lw_Z below #[Value.ref b] s) (entryFrame m ([Value.ref b] : List Value).toArray 4) := by
  obtain ⟨n, hn⟩ := xat_iff.mp hx
  obtain ⟨hx, hb, hr, hml, hown, hts, hX, hbl, hlocks, hgv⟩ := C0
  have hT := xTb_of hts
  obtain ⟨D, cA, hK⟩ := xK_of hT
  have ht : xmt[233]? = some (yL_law, cL_law, 4, some .boolean, 9, 215) := rfl
  have C : xC p s m c RL cL_law 4 D cA b L xs s.heap.size := ⟨hx, hb, hml, hown, hT, hK, hX, hbl, Nat.le_refl _, by omega⟩
  have hSnd := xsnd (l := l) (Ls := L) (xs := xs) (by omega) n
  have G := hSnd 233 0 _ [] _ _ hn _ ht p e room_1 s m #[Value.ref b] below meth c (lw_Z below #[Value.ref b] s) D cA b s.heap.size 0 0 (fun k => k) C (fun h => absurd h (by decide)) ⟨by decide, by decide⟩ ⟨hcap.1, hcap.2⟩ ?_ ?_
  · rw [xpb0] at G
    have E : entryFrame m ([Value.ref b] : List Value).toArray 4 = F0 m 0 ((lg_sl ([Value.ref b]) ++ List.replicate (4 - (lg_sl ([Value.ref b])).length) Slot.unset).toArray) [] := lg_entry_eq m [Value.ref b] 4
    rw [E]
    refine G (fun k => k) s.heap [] _ 0 0 (fun k q h => by simp [xws] at h) ⟨fun i j p q h => by simp [xws] at h, fun k q h => by simp [xws] at h⟩ va_S.rf (xlh_entry (ad := fun k => k) (b := b) (n := 4) (as := [vS]) (by decide)) ⟨fun k j => in32_0, fun k n h => by simp at h, fun k ci fs h => by simp at h⟩ ?_ (fun v hv => by cases hv) (fun k _ => rfl) (Nat.le_refl _) rfl rfl
    exact xloc_ok (fun v hv => by rw [List.mem_singleton.mp hv]; trivial)
  · intro x σ2 ad' H locs ls cells slots pc hq hdg hrt hx32 hP hD hS hso' had hn0 hce hsl
    cases hq
    refine va_forget (fun q hq => hS.2.2 q hq) ?_
    refine W.widen (k := 600000) (n := 7302250) (by omega) (by omega) ?_
    exact lw_ret hx hb hr hlocks hdg
  · intro σ2 ad' H locs ls cells slots pc hq
    cases hq
end

/-! every method checked against the machine's decoder and the tables -/
theorem ck_0 : xmchk 0 cd_0 [0] = true := by decide +kernel
theorem ck_1 : xmchk 1 cd_1 [0] = true := by decide +kernel
theorem ck_2 : xmchk 2 cd_2 [0] = true := by decide +kernel
theorem ck_3 : xmchk 3 cd_3 [0, 37] = true := by decide +kernel
theorem ck_4 : xmchk 4 cd_4 [0, 6, 16, 24] = true := by decide +kernel
theorem ck_5 : xmchk 5 cd_5 [0, 20, 22] = true := by decide +kernel
theorem ck_6 : xmchk 6 cd_6 [0, 4, 17, 25] = true := by decide +kernel
theorem ck_7 : xmchk 7 cd_7 [0, 30, 32, 66, 67] = true := by decide +kernel
theorem ck_8 : xmchk 8 cd_8 [0, 20, 21] = true := by decide +kernel
theorem ck_9 : xmchk 9 cd_9 [0, 11, 13, 38, 39] = true := by decide +kernel
theorem ck_10 : xmchk 10 cd_10 [0, 5, 24, 25] = true := by decide +kernel
theorem ck_11 : xmchk 11 cd_11 [0, 5, 19, 24, 41, 44, 51, 57, 63] = true := by decide +kernel
theorem ck_12 : xmchk 12 cd_12 [0, 30, 31] = true := by decide +kernel
def fl_13 (es : List xI) : Bool := xchain yX0_makeRoom.cls cX0_makeRoom (fun b => ([0, 20, 21, 27, 37, 47, 50, 51, 80, 84, 108, 109] : List Nat).getD b 0) 1 28 9 (Option.none) (decide (yX0_makeRoom.name = "<init>")) (xhd es) es
theorem ck_13_0 : ((cd_13.drop 0).take 11).all fl_13 = true := by decide +kernel
theorem ck_13_1 : ((cd_13.drop 11).take 1).all fl_13 = true := by decide +kernel
theorem ck_13 : xmchk 13 cd_13 [0, 20, 21, 27, 37, 47, 50, 51, 80, 84, 108, 109] = true := by
  have h : xmt[13]? = some (yX0_makeRoom, cX0_makeRoom, 9, (Option.none), 1, 28) := rfl
  unfold xmchk
  rw [h]
  simp only [Bool.and_eq_true, decide_eq_true_eq]
  refine ⟨rfl, ?_⟩
  have e : cd_13 = ((cd_13.drop 0).take 11) ++ (((cd_13.drop 11).take 1)) := rfl
  have g : cd_13.all fl_13 = true := by
    rw [e]
    simp only [List.all_append, Bool.and_eq_true]
    exact ⟨ck_13_0, ck_13_1⟩
  exact g
theorem ck_14 : xmchk 14 cd_14 [0, 6, 15, 18, 19] = true := by decide +kernel
theorem ck_15 : xmchk 15 cd_15 [0, 19, 29] = true := by decide +kernel
theorem ck_16 : xmchk 16 cd_16 [0] = true := by decide +kernel
theorem ck_17 : xmchk 17 cd_17 [0, 13, 14] = true := by decide +kernel
theorem ck_18 : xmchk 18 cd_18 [0, 22, 23] = true := by decide +kernel
theorem ck_19 : xmchk 19 cd_19 [0, 20] = true := by decide +kernel
theorem ck_20 : xmchk 20 cd_20 [0, 12, 13, 35, 36] = true := by decide +kernel
theorem ck_21 : xmchk 21 cd_21 [0] = true := by decide +kernel
theorem ck_22 : xmchk 22 cd_22 [0, 14, 27, 40, 53, 66, 79, 92, 105, 116] = true := by decide +kernel
theorem ck_23 : xmchk 23 cd_23 [0] = true := by decide +kernel
theorem ck_24 : xmchk 24 cd_24 [0, 12, 24, 36, 48, 60, 72, 84, 96] = true := by decide +kernel
theorem ck_25 : xmchk 25 cd_25 [0, 19] = true := by decide +kernel
theorem ck_26 : xmchk 26 cd_26 [0, 8] = true := by decide +kernel
theorem ck_27 : xmchk 27 cd_27 [0, 8] = true := by decide +kernel
theorem ck_28 : xmchk 28 cd_28 [0, 9] = true := by decide +kernel
theorem ck_29 : xmchk 29 cd_29 [0, 8] = true := by decide +kernel
theorem ck_30 : xmchk 30 cd_30 [0, 9] = true := by decide +kernel
theorem ck_31 : xmchk 31 cd_31 [0, 8] = true := by decide +kernel
theorem ck_32 : xmchk 32 cd_32 [0, 9] = true := by decide +kernel
theorem ck_33 : xmchk 33 cd_33 [0, 8] = true := by decide +kernel
theorem ck_34 : xmchk 34 cd_34 [0, 8] = true := by decide +kernel
theorem ck_35 : xmchk 35 cd_35 [0, 8, 19, 27, 28] = true := by decide +kernel
theorem ck_36 : xmchk 36 cd_36 [0, 9, 18] = true := by decide +kernel
theorem ck_37 : xmchk 37 cd_37 [0, 8, 18] = true := by decide +kernel
theorem ck_38 : xmchk 38 cd_38 [0, 8, 19, 31, 39, 40] = true := by decide +kernel
theorem ck_39 : xmchk 39 cd_39 [0, 5, 9, 28, 34, 40] = true := by decide +kernel
theorem ck_40 : xmchk 40 cd_40 [0, 8, 24, 34, 39] = true := by decide +kernel
theorem ck_41 : xmchk 41 cd_41 [0, 10] = true := by decide +kernel
theorem ck_42 : xmchk 42 cd_42 [0, 10] = true := by decide +kernel
theorem ck_43 : xmchk 43 cd_43 [0, 5, 9, 34, 40, 49] = true := by decide +kernel
theorem ck_44 : xmchk 44 cd_44 [0, 8, 20, 32, 36, 40, 41] = true := by decide +kernel
theorem ck_45 : xmchk 45 cd_45 [0, 8, 17, 34, 38, 42, 43] = true := by decide +kernel
theorem ck_46 : xmchk 46 cd_46 [0, 5, 10, 32, 38, 44] = true := by decide +kernel
theorem ck_47 : xmchk 47 cd_47 [0, 5, 10, 32, 42, 59, 65] = true := by decide +kernel
theorem ck_48 : xmchk 48 cd_48 [0, 5, 10, 39, 45, 62, 67, 84, 89, 95] = true := by decide +kernel
theorem ck_49 : xmchk 49 cd_49 [0, 11, 22, 33, 44, 55, 66, 77, 88, 99] = true := by decide +kernel
theorem ck_50 : xmchk 50 cd_50 [0, 15, 29, 43, 57, 71, 85, 99] = true := by decide +kernel
theorem ck_51 : xmchk 51 cd_51 [0, 9, 18, 28] = true := by decide +kernel
theorem ck_52 : xmchk 52 cd_52 [0, 8] = true := by decide +kernel
theorem ck_53 : xmchk 53 cd_53 [0, 8, 18, 30, 38, 41, 51, 60, 63, 66, 89, 98, 101, 107] = true := by decide +kernel
theorem ck_54 : xmchk 54 cd_54 [0, 8, 13, 39, 42, 48] = true := by decide +kernel
def fl_55 (es : List xI) : Bool := xchain yX3_turn.cls cX3_turn (fun b => ([0, 13, 16, 29, 32, 45, 48, 61, 64, 77, 80, 82, 111, 114, 137, 140, 146] : List Nat).getD b 0) 1 22 4 (Option.none) (decide (yX3_turn.name = "<init>")) (xhd es) es
theorem ck_55_0 : ((cd_55.drop 0).take 14).all fl_55 = true := by decide +kernel
theorem ck_55_1 : ((cd_55.drop 14).take 3).all fl_55 = true := by decide +kernel
theorem ck_55 : xmchk 55 cd_55 [0, 13, 16, 29, 32, 45, 48, 61, 64, 77, 80, 82, 111, 114, 137, 140, 146] = true := by
  have h : xmt[55]? = some (yX3_turn, cX3_turn, 4, (Option.none), 1, 22) := rfl
  unfold xmchk
  rw [h]
  simp only [Bool.and_eq_true, decide_eq_true_eq]
  refine ⟨rfl, ?_⟩
  have e : cd_55 = ((cd_55.drop 0).take 14) ++ (((cd_55.drop 14).take 3)) := rfl
  have g : cd_55.all fl_55 = true := by
    rw [e]
    simp only [List.all_append, Bool.and_eq_true]
    exact ⟨ck_55_0, ck_55_1⟩
  exact g
def fl_56 (es : List xI) : Bool := xchain yX3_placeOf.cls cX3_placeOf (fun b => ([0, 8, 18, 27, 42, 50, 53, 74, 82, 97, 105, 112, 113, 118, 142, 156, 163, 164, 172, 180, 186] : List Nat).getD b 0) 1 24 10 (Option.some Jvm.ClassFile.FieldType.int) (decide (yX3_placeOf.name = "<init>")) (xhd es) es
theorem ck_56_0 : ((cd_56.drop 0).take 14).all fl_56 = true := by decide +kernel
theorem ck_56_1 : ((cd_56.drop 14).take 7).all fl_56 = true := by decide +kernel
theorem ck_56 : xmchk 56 cd_56 [0, 8, 18, 27, 42, 50, 53, 74, 82, 97, 105, 112, 113, 118, 142, 156, 163, 164, 172, 180, 186] = true := by
  have h : xmt[56]? = some (yX3_placeOf, cX3_placeOf, 10, (Option.some Jvm.ClassFile.FieldType.int), 1, 24) := rfl
  unfold xmchk
  rw [h]
  simp only [Bool.and_eq_true, decide_eq_true_eq]
  refine ⟨rfl, ?_⟩
  have e : cd_56 = ((cd_56.drop 0).take 14) ++ (((cd_56.drop 14).take 7)) := rfl
  have g : cd_56.all fl_56 = true := by
    rw [e]
    simp only [List.all_append, Bool.and_eq_true]
    exact ⟨ck_56_0, ck_56_1⟩
  exact g
theorem ck_57 : xmchk 57 cd_57 [0, 8, 18, 34, 39, 42, 72, 75, 81] = true := by decide +kernel
theorem ck_58 : xmchk 58 cd_58 [0, 16, 21, 40, 45, 48, 52, 53] = true := by decide +kernel
theorem ck_59 : xmchk 59 cd_59 [0, 3, 19, 22, 41, 43, 49] = true := by decide +kernel
theorem ck_60 : xmchk 60 cd_60 [0, 11, 22, 33, 44, 55, 66, 77] = true := by decide +kernel
theorem ck_61 : xmchk 61 cd_61 [0, 12, 23, 34, 45, 56, 73] = true := by decide +kernel
theorem ck_62 : xmchk 62 cd_62 [0] = true := by decide +kernel
theorem ck_63 : xmchk 63 cd_63 [0, 8, 16, 24, 29, 34, 41, 42] = true := by decide +kernel
theorem ck_64 : xmchk 64 cd_64 [0, 9, 17] = true := by decide +kernel
theorem ck_65 : xmchk 65 cd_65 [0, 8, 17, 33, 36, 40, 41] = true := by decide +kernel
theorem ck_66 : xmchk 66 cd_66 [0, 8, 19, 22, 24, 32, 46, 50, 54, 55] = true := by decide +kernel
theorem ck_67 : xmchk 67 cd_67 [0, 4, 21, 31, 36, 48, 51, 57, 64, 72, 73, 80, 87, 94, 95] = true := by decide +kernel
theorem ck_68 : xmchk 68 cd_68 [0, 4, 12, 20, 26, 34, 44, 49, 56, 62, 76, 83, 84] = true := by decide +kernel
theorem ck_69 : xmchk 69 cd_69 [0, 9, 14, 30, 33, 36, 42] = true := by decide +kernel
def fl_70 (es : List xI) : Bool := xchain yX4_gather.cls cX4_gather (fun b => ([0, 11, 16, 23, 28, 41, 51, 66, 73, 90, 94, 109, 116, 117, 135, 150, 153, 173, 178, 188, 191, 194, 200] : List Nat).getD b 0) 5 133 7 (Option.none) (decide (yX4_gather.name = "<init>")) (xhd es) es
theorem ck_70_0 : ((cd_70.drop 0).take 16).all fl_70 = true := by decide +kernel
theorem ck_70_1 : ((cd_70.drop 16).take 7).all fl_70 = true := by decide +kernel
theorem ck_70 : xmchk 70 cd_70 [0, 11, 16, 23, 28, 41, 51, 66, 73, 90, 94, 109, 116, 117, 135, 150, 153, 173, 178, 188, 191, 194, 200] = true := by
  have h : xmt[70]? = some (yX4_gather, cX4_gather, 7, (Option.none), 5, 133) := rfl
  unfold xmchk
  rw [h]
  simp only [Bool.and_eq_true, decide_eq_true_eq]
  refine ⟨rfl, ?_⟩
  have e : cd_70 = ((cd_70.drop 0).take 16) ++ (((cd_70.drop 16).take 7)) := rfl
  have g : cd_70.all fl_70 = true := by
    rw [e]
    simp only [List.all_append, Bool.and_eq_true]
    exact ⟨ck_70_0, ck_70_1⟩
  exact g
theorem ck_71 : xmchk 71 cd_71 [0, 8, 19, 32, 37, 57, 60, 64, 65] = true := by decide +kernel
theorem ck_72 : xmchk 72 cd_72 [0, 8, 15, 26] = true := by decide +kernel
theorem ck_73 : xmchk 73 cd_73 [0, 11, 16, 23, 28, 41, 49, 62, 76, 82, 90, 96] = true := by decide +kernel
theorem ck_74 : xmchk 74 cd_74 [0, 7, 17, 24, 25] = true := by decide +kernel
theorem ck_75 : xmchk 75 cd_75 [0, 4, 12, 25, 42, 47, 53, 64, 72, 81, 84, 92] = true := by decide +kernel
theorem ck_76 : xmchk 76 cd_76 [0, 8, 17, 25, 30, 50, 59, 64, 70] = true := by decide +kernel
theorem ck_77 : xmchk 77 cd_77 [0, 7, 14, 17, 34, 41, 44, 53, 57, 63, 70] = true := by decide +kernel
theorem ck_78 : xmchk 78 cd_78 [0, 7, 18, 19, 26, 34, 41] = true := by decide +kernel
theorem ck_79 : xmchk 79 cd_79 [0, 8, 17, 30, 33, 50, 53, 60] = true := by decide +kernel
theorem ck_80 : xmchk 80 cd_80 [0, 11, 22, 33, 44, 55, 66] = true := by decide +kernel
theorem ck_81 : xmchk 81 cd_81 [0, 14] = true := by decide +kernel
theorem ck_82 : xmchk 82 cd_82 [0] = true := by decide +kernel
theorem ck_83 : xmchk 83 cd_83 [0, 12] = true := by decide +kernel
theorem ck_84 : xmchk 84 cd_84 [0, 8, 19, 22, 23] = true := by decide +kernel
theorem ck_85 : xmchk 85 cd_85 [0, 2, 18, 24, 30] = true := by decide +kernel
theorem ck_86 : xmchk 86 cd_86 [0, 4, 20, 38, 41, 47] = true := by decide +kernel
theorem ck_87 : xmchk 87 cd_87 [0, 11] = true := by decide +kernel
theorem ck_88 : xmchk 88 cd_88 [0, 15, 29] = true := by decide +kernel
theorem ck_89 : xmchk 89 cd_89 [0] = true := by decide +kernel
theorem ck_90 : xmchk 90 cd_90 [0, 4, 12, 19, 27, 30, 36] = true := by decide +kernel
theorem ck_91 : xmchk 91 cd_91 [0, 16, 32] = true := by decide +kernel
theorem ck_92 : xmchk 92 cd_92 [0, 7, 20, 43] = true := by decide +kernel
theorem ck_93 : xmchk 93 cd_93 [0, 12] = true := by decide +kernel
theorem ck_94 : xmchk 94 cd_94 [0, 15, 20, 26] = true := by decide +kernel
theorem ck_95 : xmchk 95 cd_95 [0, 2, 20, 28, 35, 41] = true := by decide +kernel
theorem ck_96 : xmchk 96 cd_96 [0, 11, 22] = true := by decide +kernel
theorem ck_97 : xmchk 97 cd_97 [0, 14, 27, 40, 53, 66, 79] = true := by decide +kernel
theorem ck_98 : xmchk 98 cd_98 [0] = true := by decide +kernel
theorem ck_99 : xmchk 99 cd_99 [0] = true := by decide +kernel
theorem ck_100 : xmchk 100 cd_100 [0, 8] = true := by decide +kernel
theorem ck_101 : xmchk 101 cd_101 [0, 20, 23, 24] = true := by decide +kernel
theorem ck_102 : xmchk 102 cd_102 [0, 13] = true := by decide +kernel
theorem ck_103 : xmchk 103 cd_103 [0, 20, 28, 29] = true := by decide +kernel
theorem ck_104 : xmchk 104 cd_104 [0, 8] = true := by decide +kernel
theorem ck_105 : xmchk 105 cd_105 [0, 5, 8] = true := by decide +kernel
theorem ck_106 : xmchk 106 cd_106 [0, 4, 18, 26, 27, 35] = true := by decide +kernel
theorem ck_107 : xmchk 107 cd_107 [0, 4, 28, 29, 42, 54, 55, 64, 72, 73, 81] = true := by decide +kernel
theorem ck_108 : xmchk 108 cd_108 [0, 2, 18, 30, 34, 36, 42] = true := by decide +kernel
theorem ck_109 : xmchk 109 cd_109 [0, 10, 24, 36, 48, 70] = true := by decide +kernel
theorem ck_110 : xmchk 110 cd_110 [0, 12, 24, 36, 48] = true := by decide +kernel
theorem ck_111 : xmchk 111 cd_111 [0, 5, 8, 12, 18, 41, 46, 60, 74] = true := by decide +kernel
theorem ck_112 : xmchk 112 cd_112 [0, 21, 33] = true := by decide +kernel
theorem ck_113 : xmchk 113 cd_113 [0, 8, 14, 17] = true := by decide +kernel
theorem ck_114 : xmchk 114 cd_114 [0, 20, 28, 29, 34, 59] = true := by decide +kernel
theorem ck_115 : xmchk 115 cd_115 [0, 14, 28] = true := by decide +kernel
theorem ck_116 : xmchk 116 cd_116 [0, 4, 11, 31, 40, 49, 62, 65] = true := by decide +kernel
theorem ck_117 : xmchk 117 cd_117 [0, 11, 22, 33, 44, 55, 66] = true := by decide +kernel
theorem ck_118 : xmchk 118 cd_118 [0, 14, 27, 40, 53, 66] = true := by decide +kernel
theorem ck_119 : xmchk 119 cd_119 [0] = true := by decide +kernel
theorem ck_120 : xmchk 120 cd_120 [0] = true := by decide +kernel
theorem ck_121 : xmchk 121 cd_121 [0, 8] = true := by decide +kernel
theorem ck_122 : xmchk 122 cd_122 [0, 8] = true := by decide +kernel
theorem ck_123 : xmchk 123 cd_123 [0, 12, 24, 36, 49, 61] = true := by decide +kernel
theorem ck_124 : xmchk 124 cd_124 [0, 9] = true := by decide +kernel
theorem ck_125 : xmchk 125 cd_125 [0] = true := by decide +kernel
theorem ck_126 : xmchk 126 cd_126 [0, 7, 17, 37, 43, 127, 133, 146, 147] = true := by decide +kernel
theorem ck_127 : xmchk 127 cd_127 [0, 8, 18, 28, 38, 68, 80, 92, 93, 94, 101, 110, 111, 112, 119, 120, 127, 139, 148, 149, 150, 157] = true := by decide +kernel
theorem ck_128 : xmchk 128 cd_128 [0, 8, 13, 30, 33, 41] = true := by decide +kernel
theorem ck_129 : xmchk 129 cd_129 [0, 6, 10, 25, 28, 43, 48, 54] = true := by decide +kernel
theorem ck_130 : xmchk 130 cd_130 [0, 6, 10, 27, 30, 41, 44, 51, 57] = true := by decide +kernel
theorem ck_131 : xmchk 131 cd_131 [0, 11, 22, 33, 44, 55] = true := by decide +kernel
theorem ck_132 : xmchk 132 cd_132 [0, 13, 25] = true := by decide +kernel
theorem ck_133 : xmchk 133 cd_133 [0, 6, 20, 23, 33, 39, 51, 59, 70, 83] = true := by decide +kernel
theorem ck_134 : xmchk 134 cd_134 [0, 8, 14, 24, 32, 47] = true := by decide +kernel
theorem ck_135 : xmchk 135 cd_135 [0, 11, 14, 28, 31, 43] = true := by decide +kernel
theorem ck_136 : xmchk 136 cd_136 [0, 21, 24, 36] = true := by decide +kernel
theorem ck_137 : xmchk 137 cd_137 [0, 11, 14, 22, 25, 28, 47, 50] = true := by decide +kernel
theorem ck_138 : xmchk 138 cd_138 [0, 9, 12, 22, 30, 48, 51, 62] = true := by decide +kernel
def fl_139 (es : List xI) : Bool := xchain yX9_edit.cls cX9_edit (fun b => ([0, 5, 14, 17, 20, 27, 36, 47, 50, 67, 71, 102, 105, 123, 126, 132, 144, 150, 161, 178, 181, 197, 219, 240, 251] : List Nat).getD b 0) 3 73 9 (Option.some Jvm.ClassFile.FieldType.int) (decide (yX9_edit.name = "<init>")) (xhd es) es
theorem ck_139_0 : ((cd_139.drop 0).take 18).all fl_139 = true := by decide +kernel
theorem ck_139_1 : ((cd_139.drop 18).take 7).all fl_139 = true := by decide +kernel
theorem ck_139 : xmchk 139 cd_139 [0, 5, 14, 17, 20, 27, 36, 47, 50, 67, 71, 102, 105, 123, 126, 132, 144, 150, 161, 178, 181, 197, 219, 240, 251] = true := by
  have h : xmt[139]? = some (yX9_edit, cX9_edit, 9, (Option.some Jvm.ClassFile.FieldType.int), 3, 73) := rfl
  unfold xmchk
  rw [h]
  simp only [Bool.and_eq_true, decide_eq_true_eq]
  refine ⟨rfl, ?_⟩
  have e : cd_139 = ((cd_139.drop 0).take 18) ++ (((cd_139.drop 18).take 7)) := rfl
  have g : cd_139.all fl_139 = true := by
    rw [e]
    simp only [List.all_append, Bool.and_eq_true]
    exact ⟨ck_139_0, ck_139_1⟩
  exact g
theorem ck_140 : xmchk 140 cd_140 [0, 5, 11, 22, 29, 47, 50, 63, 88, 91, 97, 107, 115, 125] = true := by decide +kernel
theorem ck_141 : xmchk 141 cd_141 [0, 5, 13, 21, 24, 35, 49, 52, 55, 67] = true := by decide +kernel
theorem ck_142 : xmchk 142 cd_142 [0, 5, 11, 36, 39, 42] = true := by decide +kernel
theorem ck_143 : xmchk 143 cd_143 [0, 5, 19, 22, 25, 28, 39, 59, 70, 73] = true := by decide +kernel
theorem ck_144 : xmchk 144 cd_144 [0, 5, 11, 22, 36, 39, 42, 54, 65] = true := by decide +kernel
theorem ck_145 : xmchk 145 cd_145 [0, 5, 11, 22, 29, 39] = true := by decide +kernel
theorem ck_146 : xmchk 146 cd_146 [0, 5, 11, 22, 29, 41, 44] = true := by decide +kernel
theorem ck_147 : xmchk 147 cd_147 [0, 11, 14, 22] = true := by decide +kernel
theorem ck_148 : xmchk 148 cd_148 [0, 11, 14, 24, 35, 39, 57, 67, 74, 84, 90, 97, 103] = true := by decide +kernel
theorem ck_149 : xmchk 149 cd_149 [0, 5, 11, 52, 63, 64, 72, 73, 84, 85, 96, 97, 108, 109, 120, 121] = true := by decide +kernel
theorem ck_150 : xmchk 150 cd_150 [0, 11] = true := by decide +kernel
theorem ck_151 : xmchk 151 cd_151 [0, 11] = true := by decide +kernel
theorem ck_152 : xmchk 152 cd_152 [0, 5, 14, 23, 26, 29, 42, 45, 50, 63, 76, 88] = true := by decide +kernel
theorem ck_153 : xmchk 153 cd_153 [0, 5, 11, 22, 25, 40, 43, 44] = true := by decide +kernel
theorem ck_154 : xmchk 154 cd_154 [0, 11, 14, 22, 29, 32, 45] = true := by decide +kernel
theorem ck_155 : xmchk 155 cd_155 [0, 10] = true := by decide +kernel
theorem ck_156 : xmchk 156 cd_156 [0, 11] = true := by decide +kernel
theorem ck_157 : xmchk 157 cd_157 [0, 10, 21] = true := by decide +kernel
theorem ck_158 : xmchk 158 cd_158 [0, 56, 73, 76, 77, 87, 88, 98, 99, 109, 110, 120, 121, 131, 132, 142, 143, 153, 154, 164, 165, 175, 176] = true := by decide +kernel
theorem ck_159 : xmchk 159 cd_159 [0, 13, 14] = true := by decide +kernel
theorem ck_160 : xmchk 160 cd_160 [0, 8, 9] = true := by decide +kernel
theorem ck_161 : xmchk 161 cd_161 [0, 11, 14] = true := by decide +kernel
theorem ck_162 : xmchk 162 cd_162 [0, 15, 22, 23] = true := by decide +kernel
theorem ck_163 : xmchk 163 cd_163 [0, 36, 42, 62, 69, 70, 71, 77, 86, 93, 94, 95, 101, 110, 119, 126, 127, 128, 134, 135] = true := by decide +kernel
theorem ck_164 : xmchk 164 cd_164 [0, 17, 18] = true := by decide +kernel
theorem ck_165 : xmchk 165 cd_165 [0] = true := by decide +kernel
theorem ck_166 : xmchk 166 cd_166 [0] = true := by decide +kernel
theorem ck_167 : xmchk 167 cd_167 [0] = true := by decide +kernel
theorem ck_168 : xmchk 168 cd_168 [0, 2, 39, 47, 64, 79, 96, 111, 120, 126] = true := by decide +kernel
theorem ck_169 : xmchk 169 cd_169 [0, 9] = true := by decide +kernel
theorem ck_170 : xmchk 170 cd_170 [0, 9, 21, 24, 27, 40, 46, 56, 66, 79, 82, 95, 103, 116] = true := by decide +kernel
theorem ck_171 : xmchk 171 cd_171 [0, 18, 25, 36, 39, 42, 51, 57, 64, 82, 87, 100, 102] = true := by decide +kernel
def fl_172 (es : List xI) : Bool := xchain yX10_test.cls cX10_test (fun b => ([0, 14, 31, 34, 37, 44, 45, 65, 79, 82, 86, 87, 108, 111, 115, 116, 137, 150, 153, 157, 158, 168, 187, 198, 209, 220, 231, 243, 254] : List Nat).getD b 0) 1 25 7 (Option.some Jvm.ClassFile.FieldType.int) (decide (yX10_test.name = "<init>")) (xhd es) es
theorem ck_172_0 : ((cd_172.drop 0).take 16).all fl_172 = true := by decide +kernel
theorem ck_172_1 : ((cd_172.drop 16).take 13).all fl_172 = true := by decide +kernel
theorem ck_172 : xmchk 172 cd_172 [0, 14, 31, 34, 37, 44, 45, 65, 79, 82, 86, 87, 108, 111, 115, 116, 137, 150, 153, 157, 158, 168, 187, 198, 209, 220, 231, 243, 254] = true := by
  have h : xmt[172]? = some (yX10_test, cX10_test, 7, (Option.some Jvm.ClassFile.FieldType.int), 1, 25) := rfl
  unfold xmchk
  rw [h]
  simp only [Bool.and_eq_true, decide_eq_true_eq]
  refine ⟨rfl, ?_⟩
  have e : cd_172 = ((cd_172.drop 0).take 16) ++ (((cd_172.drop 16).take 13)) := rfl
  have g : cd_172.all fl_172 = true := by
    rw [e]
    simp only [List.all_append, Bool.and_eq_true]
    exact ⟨ck_172_0, ck_172_1⟩
  exact g
theorem ck_173 : xmchk 173 cd_173 [0, 16] = true := by decide +kernel
theorem ck_174 : xmchk 174 cd_174 [0, 10, 22, 25, 28] = true := by decide +kernel
theorem ck_175 : xmchk 175 cd_175 [0, 14, 25, 28, 31] = true := by decide +kernel
theorem ck_176 : xmchk 176 cd_176 [0, 11, 20, 21] = true := by decide +kernel
theorem ck_177 : xmchk 177 cd_177 [0, 5, 15, 24, 43, 51, 59, 60, 68, 74] = true := by decide +kernel
def fl_178 (es : List xI) : Bool := xchain yX10_isSo.cls cX10_isSo (fun b => ([0, 60, 66, 74, 93, 104, 125, 126, 127, 133, 142, 143, 144, 147, 155, 172, 180, 195, 200, 206, 208, 214, 231, 232, 235, 243, 260, 278, 285, 291] : List Nat).getD b 0) 3 71 8 (Option.some Jvm.ClassFile.FieldType.boolean) (decide (yX10_isSo.name = "<init>")) (xhd es) es
theorem ck_178_0 : ((cd_178.drop 0).take 14).all fl_178 = true := by decide +kernel
theorem ck_178_1 : ((cd_178.drop 14).take 16).all fl_178 = true := by decide +kernel
theorem ck_178 : xmchk 178 cd_178 [0, 60, 66, 74, 93, 104, 125, 126, 127, 133, 142, 143, 144, 147, 155, 172, 180, 195, 200, 206, 208, 214, 231, 232, 235, 243, 260, 278, 285, 291] = true := by
  have h : xmt[178]? = some (yX10_isSo, cX10_isSo, 8, (Option.some Jvm.ClassFile.FieldType.boolean), 3, 71) := rfl
  unfold xmchk
  rw [h]
  simp only [Bool.and_eq_true, decide_eq_true_eq]
  refine ⟨rfl, ?_⟩
  have e : cd_178 = ((cd_178.drop 0).take 14) ++ (((cd_178.drop 14).take 16)) := rfl
  have g : cd_178.all fl_178 = true := by
    rw [e]
    simp only [List.all_append, Bool.and_eq_true]
    exact ⟨ck_178_0, ck_178_1⟩
  exact g
theorem ck_179 : xmchk 179 cd_179 [0, 10, 26, 29, 32, 38, 45, 46] = true := by decide +kernel
def fl_180 (es : List xI) : Bool := xchain yX10_isHeld.cls cX10_isHeld (fun b => ([0, 6, 32, 38, 126, 127, 144, 145, 163, 164, 170, 185, 186] : List Nat).getD b 0) 4 98 7 (Option.some Jvm.ClassFile.FieldType.boolean) (decide (yX10_isHeld.name = "<init>")) (xhd es) es
theorem ck_180_0 : ((cd_180.drop 0).take 5).all fl_180 = true := by decide +kernel
theorem ck_180_1 : ((cd_180.drop 5).take 8).all fl_180 = true := by decide +kernel
theorem ck_180 : xmchk 180 cd_180 [0, 6, 32, 38, 126, 127, 144, 145, 163, 164, 170, 185, 186] = true := by
  have h : xmt[180]? = some (yX10_isHeld, cX10_isHeld, 7, (Option.some Jvm.ClassFile.FieldType.boolean), 4, 98) := rfl
  unfold xmchk
  rw [h]
  simp only [Bool.and_eq_true, decide_eq_true_eq]
  refine ⟨rfl, ?_⟩
  have e : cd_180 = ((cd_180.drop 0).take 5) ++ (((cd_180.drop 5).take 8)) := rfl
  have g : cd_180.all fl_180 = true := by
    rw [e]
    simp only [List.all_append, Bool.and_eq_true]
    exact ⟨ck_180_0, ck_180_1⟩
  exact g
theorem ck_181 : xmchk 181 cd_181 [0, 16] = true := by decide +kernel
theorem ck_182 : xmchk 182 cd_182 [0, 19, 29, 44, 54, 64, 74, 84, 94, 104] = true := by decide +kernel
theorem ck_183 : xmchk 183 cd_183 [0, 14, 22, 39, 44] = true := by decide +kernel
theorem ck_184 : xmchk 184 cd_184 [0, 7, 43, 47, 48, 55] = true := by decide +kernel
theorem ck_185 : xmchk 185 cd_185 [0, 14, 20, 41, 46, 47] = true := by decide +kernel
def fl_186 (es : List xI) : Bool := xchain yX10_edit.cls cX10_edit (fun b => ([0, 10, 17, 30, 43, 60, 71, 74, 89, 103, 109, 141, 157, 160, 186, 189, 217, 228, 240, 252, 269, 270, 288, 289, 292, 331, 334, 366, 369, 375, 378, 395, 417, 438, 444] : List Nat).getD b 0) 2 47 11 (Option.some Jvm.ClassFile.FieldType.int) (decide (yX10_edit.name = "<init>")) (xhd es) es
theorem ck_186_0 : ((cd_186.drop 0).take 11).all fl_186 = true := by decide +kernel
theorem ck_186_1 : ((cd_186.drop 11).take 10).all fl_186 = true := by decide +kernel
theorem ck_186_2 : ((cd_186.drop 21).take 10).all fl_186 = true := by decide +kernel
theorem ck_186_3 : ((cd_186.drop 31).take 4).all fl_186 = true := by decide +kernel
theorem ck_186 : xmchk 186 cd_186 [0, 10, 17, 30, 43, 60, 71, 74, 89, 103, 109, 141, 157, 160, 186, 189, 217, 228, 240, 252, 269, 270, 288, 289, 292, 331, 334, 366, 369, 375, 378, 395, 417, 438, 444] = true := by
  have h : xmt[186]? = some (yX10_edit, cX10_edit, 11, (Option.some Jvm.ClassFile.FieldType.int), 2, 47) := rfl
  unfold xmchk
  rw [h]
  simp only [Bool.and_eq_true, decide_eq_true_eq]
  refine ⟨rfl, ?_⟩
  have e : cd_186 = ((cd_186.drop 0).take 11) ++ (((cd_186.drop 11).take 10) ++ (((cd_186.drop 21).take 10) ++ (((cd_186.drop 31).take 4)))) := rfl
  have g : cd_186.all fl_186 = true := by
    rw [e]
    simp only [List.all_append, Bool.and_eq_true]
    exact ⟨ck_186_0, ⟨ck_186_1, ⟨ck_186_2, ck_186_3⟩⟩⟩
  exact g
def fl_187 (es : List xI) : Bool := xchain yX10_fitsAt.cls cX10_fitsAt (fun b => ([0, 18, 36, 45, 63, 72, 83, 85, 102, 124, 144, 147, 170, 172, 175, 200, 222, 228, 256, 261, 262, 283, 284] : List Nat).getD b 0) 1 22 11 (Option.some Jvm.ClassFile.FieldType.int) (decide (yX10_fitsAt.name = "<init>")) (xhd es) es
theorem ck_187_0 : ((cd_187.drop 0).take 11).all fl_187 = true := by decide +kernel
theorem ck_187_1 : ((cd_187.drop 11).take 12).all fl_187 = true := by decide +kernel
theorem ck_187 : xmchk 187 cd_187 [0, 18, 36, 45, 63, 72, 83, 85, 102, 124, 144, 147, 170, 172, 175, 200, 222, 228, 256, 261, 262, 283, 284] = true := by
  have h : xmt[187]? = some (yX10_fitsAt, cX10_fitsAt, 11, (Option.some Jvm.ClassFile.FieldType.int), 1, 22) := rfl
  unfold xmchk
  rw [h]
  simp only [Bool.and_eq_true, decide_eq_true_eq]
  refine ⟨rfl, ?_⟩
  have e : cd_187 = ((cd_187.drop 0).take 11) ++ (((cd_187.drop 11).take 12)) := rfl
  have g : cd_187.all fl_187 = true := by
    rw [e]
    simp only [List.all_append, Bool.and_eq_true]
    exact ⟨ck_187_0, ck_187_1⟩
  exact g
theorem ck_188 : xmchk 188 cd_188 [0, 7, 37, 45, 46, 53] = true := by decide +kernel
def fl_189 (es : List xI) : Bool := xchain yX10_apply.cls cX10_apply (fun b => ([0, 17, 25, 63, 86, 92, 95, 102, 122, 128, 131, 162, 196, 219] : List Nat).getD b 0) 2 52 9 (Option.none) (decide (yX10_apply.name = "<init>")) (xhd es) es
theorem ck_189_0 : ((cd_189.drop 0).take 10).all fl_189 = true := by decide +kernel
theorem ck_189_1 : ((cd_189.drop 10).take 4).all fl_189 = true := by decide +kernel
theorem ck_189 : xmchk 189 cd_189 [0, 17, 25, 63, 86, 92, 95, 102, 122, 128, 131, 162, 196, 219] = true := by
  have h : xmt[189]? = some (yX10_apply, cX10_apply, 9, (Option.none), 2, 52) := rfl
  unfold xmchk
  rw [h]
  simp only [Bool.and_eq_true, decide_eq_true_eq]
  refine ⟨rfl, ?_⟩
  have e : cd_189 = ((cd_189.drop 0).take 10) ++ (((cd_189.drop 10).take 4)) := rfl
  have g : cd_189.all fl_189 = true := by
    rw [e]
    simp only [List.all_append, Bool.and_eq_true]
    exact ⟨ck_189_0, ck_189_1⟩
  exact g
theorem ck_190 : xmchk 190 cd_190 [0, 14, 28, 45, 59] = true := by decide +kernel
theorem ck_191 : xmchk 191 cd_191 [0, 6, 11, 15, 38, 44] = true := by decide +kernel
def fl_192 (es : List xI) : Bool := xchain yX10_revert.cls cX10_revert (fun b => ([0, 10, 16, 33, 34, 39, 72, 80, 81, 88, 95, 110, 115, 134, 137, 187, 207, 227, 247, 267, 270, 309, 341, 373, 405, 411, 417] : List Nat).getD b 0) 2 52 8 (Option.some Jvm.ClassFile.FieldType.int) (decide (yX10_revert.name = "<init>")) (xhd es) es
theorem ck_192_0 : ((cd_192.drop 0).take 13).all fl_192 = true := by decide +kernel
theorem ck_192_1 : ((cd_192.drop 13).take 6).all fl_192 = true := by decide +kernel
theorem ck_192_2 : ((cd_192.drop 19).take 5).all fl_192 = true := by decide +kernel
theorem ck_192_3 : ((cd_192.drop 24).take 3).all fl_192 = true := by decide +kernel
theorem ck_192 : xmchk 192 cd_192 [0, 10, 16, 33, 34, 39, 72, 80, 81, 88, 95, 110, 115, 134, 137, 187, 207, 227, 247, 267, 270, 309, 341, 373, 405, 411, 417] = true := by
  have h : xmt[192]? = some (yX10_revert, cX10_revert, 8, (Option.some Jvm.ClassFile.FieldType.int), 2, 52) := rfl
  unfold xmchk
  rw [h]
  simp only [Bool.and_eq_true, decide_eq_true_eq]
  refine ⟨rfl, ?_⟩
  have e : cd_192 = ((cd_192.drop 0).take 13) ++ (((cd_192.drop 13).take 6) ++ (((cd_192.drop 19).take 5) ++ (((cd_192.drop 24).take 3)))) := rfl
  have g : cd_192.all fl_192 = true := by
    rw [e]
    simp only [List.all_append, Bool.and_eq_true]
    exact ⟨ck_192_0, ⟨ck_192_1, ⟨ck_192_2, ck_192_3⟩⟩⟩
  exact g
theorem ck_193 : xmchk 193 cd_193 [0, 10, 18, 26, 29, 79, 82] = true := by decide +kernel
theorem ck_194 : xmchk 194 cd_194 [0, 10, 18, 29, 36, 37] = true := by decide +kernel
def fl_195 (es : List xI) : Bool := xchain yX10_gives.cls cX10_gives (fun b => ([0, 7, 28, 72, 75, 76, 115, 118, 119, 142, 159, 163, 164, 171, 177] : List Nat).getD b 0) 2 46 8 (Option.some Jvm.ClassFile.FieldType.boolean) (decide (yX10_gives.name = "<init>")) (xhd es) es
theorem ck_195_0 : ((cd_195.drop 0).take 9).all fl_195 = true := by decide +kernel
theorem ck_195_1 : ((cd_195.drop 9).take 6).all fl_195 = true := by decide +kernel
theorem ck_195 : xmchk 195 cd_195 [0, 7, 28, 72, 75, 76, 115, 118, 119, 142, 159, 163, 164, 171, 177] = true := by
  have h : xmt[195]? = some (yX10_gives, cX10_gives, 8, (Option.some Jvm.ClassFile.FieldType.boolean), 2, 46) := rfl
  unfold xmchk
  rw [h]
  simp only [Bool.and_eq_true, decide_eq_true_eq]
  refine ⟨rfl, ?_⟩
  have e : cd_195 = ((cd_195.drop 0).take 9) ++ (((cd_195.drop 9).take 6)) := rfl
  have g : cd_195.all fl_195 = true := by
    rw [e]
    simp only [List.all_append, Bool.and_eq_true]
    exact ⟨ck_195_0, ck_195_1⟩
  exact g
theorem ck_196 : xmchk 196 cd_196 [0, 33, 36, 43, 57, 60, 64, 65] = true := by decide +kernel
theorem ck_197 : xmchk 197 cd_197 [0, 10, 18, 21, 26, 32, 39, 40] = true := by decide +kernel
theorem ck_198 : xmchk 198 cd_198 [0, 2, 28, 34] = true := by decide +kernel
theorem ck_199 : xmchk 199 cd_199 [0, 10, 16, 40, 43] = true := by decide +kernel
theorem ck_200 : xmchk 200 cd_200 [0, 5, 20, 60] = true := by decide +kernel
theorem ck_201 : xmchk 201 cd_201 [0, 10, 16, 32, 39] = true := by decide +kernel
theorem ck_202 : xmchk 202 cd_202 [0, 10, 16, 32, 58, 59] = true := by decide +kernel
theorem ck_203 : xmchk 203 cd_203 [0, 14, 20] = true := by decide +kernel
theorem ck_204 : xmchk 204 cd_204 [0, 39, 43, 44] = true := by decide +kernel
theorem ck_205 : xmchk 205 cd_205 [0, 5, 34, 37, 41, 42] = true := by decide +kernel
theorem ck_206 : xmchk 206 cd_206 [0, 33, 38, 41, 45, 46] = true := by decide +kernel
theorem ck_207 : xmchk 207 cd_207 [0, 47, 51, 52] = true := by decide +kernel
theorem ck_208 : xmchk 208 cd_208 [0, 7, 13, 43, 46, 48, 55] = true := by decide +kernel
theorem ck_209 : xmchk 209 cd_209 [0, 12, 19] = true := by decide +kernel
theorem ck_210 : xmchk 210 cd_210 [0, 17, 40, 51] = true := by decide +kernel
theorem ck_211 : xmchk 211 cd_211 [0, 2, 28, 36, 50, 53, 55, 61] = true := by decide +kernel
theorem ck_212 : xmchk 212 cd_212 [0, 19, 29, 39, 49, 59] = true := by decide +kernel
theorem ck_213 : xmchk 213 cd_213 [0] = true := by decide +kernel
theorem ck_214 : xmchk 214 cd_214 [0, 5, 13, 18, 21, 28] = true := by decide +kernel
def fl_215 (es : List xI) : Bool := xchain yX10_makeMany.cls cX10_makeMany (fun b => ([0, 4, 30, 38, 51, 57, 69, 74, 86, 120, 135, 148, 151, 161, 176, 182, 206, 207] : List Nat).getD b 0) 6 146 4 (Option.none) (decide (yX10_makeMany.name = "<init>")) (xhd es) es
theorem ck_215_0 : ((cd_215.drop 0).take 10).all fl_215 = true := by decide +kernel
theorem ck_215_1 : ((cd_215.drop 10).take 8).all fl_215 = true := by decide +kernel
theorem ck_215 : xmchk 215 cd_215 [0, 4, 30, 38, 51, 57, 69, 74, 86, 120, 135, 148, 151, 161, 176, 182, 206, 207] = true := by
  have h : xmt[215]? = some (yX10_makeMany, cX10_makeMany, 4, (Option.none), 6, 146) := rfl
  unfold xmchk
  rw [h]
  simp only [Bool.and_eq_true, decide_eq_true_eq]
  refine ⟨rfl, ?_⟩
  have e : cd_215 = ((cd_215.drop 0).take 10) ++ (((cd_215.drop 10).take 8)) := rfl
  have g : cd_215.all fl_215 = true := by
    rw [e]
    simp only [List.all_append, Bool.and_eq_true]
    exact ⟨ck_215_0, ck_215_1⟩
  exact g
theorem ck_216 : xmchk 216 cd_216 [0, 5, 6, 26, 37, 40, 46, 54, 57, 61, 66, 70, 84, 85] = true := by decide +kernel
theorem ck_217 : xmchk 217 cd_217 [0, 12, 16, 51, 62, 84, 90, 133] = true := by decide +kernel
def fl_218 (es : List xI) : Bool := xchain yX10_cut.cls cX10_cut (fun b => ([0, 27, 30, 55, 61, 73, 76, 114, 120, 132, 142, 152] : List Nat).getD b 0) 1 22 5 (Option.none) (decide (yX10_cut.name = "<init>")) (xhd es) es
theorem ck_218_0 : ((cd_218.drop 0).take 8).all fl_218 = true := by decide +kernel
theorem ck_218_1 : ((cd_218.drop 8).take 4).all fl_218 = true := by decide +kernel
theorem ck_218 : xmchk 218 cd_218 [0, 27, 30, 55, 61, 73, 76, 114, 120, 132, 142, 152] = true := by
  have h : xmt[218]? = some (yX10_cut, cX10_cut, 5, (Option.none), 1, 22) := rfl
  unfold xmchk
  rw [h]
  simp only [Bool.and_eq_true, decide_eq_true_eq]
  refine ⟨rfl, ?_⟩
  have e : cd_218 = ((cd_218.drop 0).take 8) ++ (((cd_218.drop 8).take 4)) := rfl
  have g : cd_218.all fl_218 = true := by
    rw [e]
    simp only [List.all_append, Bool.and_eq_true]
    exact ⟨ck_218_0, ck_218_1⟩
  exact g
theorem ck_219 : xmchk 219 cd_219 [0, 4, 77, 83] = true := by decide +kernel
def fl_220 (es : List xI) : Bool := xchain yX10_run.cls cX10_run (fun b => ([0, 5, 11, 34, 58, 61, 65, 66, 74, 87, 95, 96, 103, 112, 158, 180, 183, 199, 201, 219, 229, 241, 251, 257, 272, 282, 283, 297, 307, 310, 328, 349, 355, 366, 391] : List Nat).getD b 0) 5 124 11 (Option.none) (decide (yX10_run.name = "<init>")) (xhd es) es
theorem ck_220_0 : ((cd_220.drop 0).take 13).all fl_220 = true := by decide +kernel
theorem ck_220_1 : ((cd_220.drop 13).take 9).all fl_220 = true := by decide +kernel
theorem ck_220_2 : ((cd_220.drop 22).take 11).all fl_220 = true := by decide +kernel
theorem ck_220_3 : ((cd_220.drop 33).take 2).all fl_220 = true := by decide +kernel
theorem ck_220 : xmchk 220 cd_220 [0, 5, 11, 34, 58, 61, 65, 66, 74, 87, 95, 96, 103, 112, 158, 180, 183, 199, 201, 219, 229, 241, 251, 257, 272, 282, 283, 297, 307, 310, 328, 349, 355, 366, 391] = true := by
  have h : xmt[220]? = some (yX10_run, cX10_run, 11, (Option.none), 5, 124) := rfl
  unfold xmchk
  rw [h]
  simp only [Bool.and_eq_true, decide_eq_true_eq]
  refine ⟨rfl, ?_⟩
  have e : cd_220 = ((cd_220.drop 0).take 13) ++ (((cd_220.drop 13).take 9) ++ (((cd_220.drop 22).take 11) ++ (((cd_220.drop 33).take 2)))) := rfl
  have g : cd_220.all fl_220 = true := by
    rw [e]
    simp only [List.all_append, Bool.and_eq_true]
    exact ⟨ck_220_0, ⟨ck_220_1, ⟨ck_220_2, ck_220_3⟩⟩⟩
  exact g
def fl_221 (es : List xI) : Bool := xchain yX10_go.cls cX10_go (fun b => ([0, 14, 20, 38, 48, 79, 82, 86, 87, 109, 136, 155, 158, 178, 181, 221, 224] : List Nat).getD b 0) 8 191 5 (Option.some Jvm.ClassFile.FieldType.int) (decide (yX10_go.name = "<init>")) (xhd es) es
theorem ck_221_0 : ((cd_221.drop 0).take 10).all fl_221 = true := by decide +kernel
theorem ck_221_1 : ((cd_221.drop 10).take 7).all fl_221 = true := by decide +kernel
theorem ck_221 : xmchk 221 cd_221 [0, 14, 20, 38, 48, 79, 82, 86, 87, 109, 136, 155, 158, 178, 181, 221, 224] = true := by
  have h : xmt[221]? = some (yX10_go, cX10_go, 5, (Option.some Jvm.ClassFile.FieldType.int), 8, 191) := rfl
  unfold xmchk
  rw [h]
  simp only [Bool.and_eq_true, decide_eq_true_eq]
  refine ⟨rfl, ?_⟩
  have e : cd_221 = ((cd_221.drop 0).take 10) ++ (((cd_221.drop 10).take 7)) := rfl
  have g : cd_221.all fl_221 = true := by
    rw [e]
    simp only [List.all_append, Bool.and_eq_true]
    exact ⟨ck_221_0, ck_221_1⟩
  exact g
theorem ck_222 : xmchk 222 cd_222 [0, 4, 20, 25, 47, 51, 52, 59, 65] = true := by decide +kernel
def fl_223 (es : List xI) : Bool := xchain yX10_about.cls cX10_about (fun b => ([0, 10, 22, 25, 28, 52, 57, 64, 69, 76, 77, 78, 94, 111, 128, 145, 154] : List Nat).getD b 0) 2 49 4 (Option.some Jvm.ClassFile.FieldType.int) (decide (yX10_about.name = "<init>")) (xhd es) es
theorem ck_223_0 : ((cd_223.drop 0).take 15).all fl_223 = true := by decide +kernel
theorem ck_223_1 : ((cd_223.drop 15).take 2).all fl_223 = true := by decide +kernel
theorem ck_223 : xmchk 223 cd_223 [0, 10, 22, 25, 28, 52, 57, 64, 69, 76, 77, 78, 94, 111, 128, 145, 154] = true := by
  have h : xmt[223]? = some (yX10_about, cX10_about, 4, (Option.some Jvm.ClassFile.FieldType.int), 2, 49) := rfl
  unfold xmchk
  rw [h]
  simp only [Bool.and_eq_true, decide_eq_true_eq]
  refine ⟨rfl, ?_⟩
  have e : cd_223 = ((cd_223.drop 0).take 15) ++ (((cd_223.drop 15).take 2)) := rfl
  have g : cd_223.all fl_223 = true := by
    rw [e]
    simp only [List.all_append, Bool.and_eq_true]
    exact ⟨ck_223_0, ck_223_1⟩
  exact g
theorem ck_224 : xmchk 224 cd_224 [0, 21, 36, 37] = true := by decide +kernel
theorem ck_225 : xmchk 225 cd_225 [0, 17, 26, 39, 49, 58, 60, 68] = true := by decide +kernel
theorem ck_226 : xmchk 226 cd_226 [0, 14, 20, 36, 55, 56] = true := by decide +kernel
theorem ck_227 : xmchk 227 cd_227 [0, 21, 33, 40, 43] = true := by decide +kernel
theorem ck_228 : xmchk 228 cd_228 [0, 7, 22, 54, 60, 66] = true := by decide +kernel
theorem ck_229 : xmchk 229 cd_229 [0, 12, 36] = true := by decide +kernel
theorem ck_230 : xmchk 230 cd_230 [0, 15, 17, 41] = true := by decide +kernel
theorem ck_231 : xmchk 231 cd_231 [0, 64, 66, 84, 92, 94, 102, 110, 118, 120, 137, 145, 147, 155, 162, 170, 177, 185] = true := by decide +kernel
theorem ck_232 : xmchk 232 cd_232 [0, 12, 13] = true := by decide +kernel
def fl_233 (es : List xI) : Bool := xchain yL_law.cls cL_law (fun b => ([0, 9, 12, 22, 25, 28, 160, 174, 188, 193, 217, 241, 246, 260, 274, 279, 293, 307, 312, 326, 340, 345, 354, 363, 368, 403, 438, 443, 452, 461, 466, 480, 494, 499, 508, 517, 522, 536, 550, 555, 564, 573, 578, 587, 596, 601, 619, 620, 623, 641, 642, 645, 650, 659, 668, 673, 682, 691, 696, 710, 724, 729, 738, 747, 752, 761, 770, 775, 799, 823, 828, 842, 856, 861, 880, 899, 904, 908, 912, 917, 921, 925, 930, 934, 938, 943, 952, 961, 966, 972] : List Nat).getD b 0) 9 215 4 (Option.some Jvm.ClassFile.FieldType.boolean) (decide (yL_law.name = "<init>")) (xhd es) es
theorem ck_233_0 : ((cd_233.drop 0).take 10).all fl_233 = true := by decide +kernel
theorem ck_233_1 : ((cd_233.drop 10).take 8).all fl_233 = true := by decide +kernel
theorem ck_233_2 : ((cd_233.drop 18).take 7).all fl_233 = true := by decide +kernel
theorem ck_233_3 : ((cd_233.drop 25).take 8).all fl_233 = true := by decide +kernel
theorem ck_233_4 : ((cd_233.drop 33).take 12).all fl_233 = true := by decide +kernel
theorem ck_233_5 : ((cd_233.drop 45).take 14).all fl_233 = true := by decide +kernel
theorem ck_233_6 : ((cd_233.drop 59).take 9).all fl_233 = true := by decide +kernel
theorem ck_233_7 : ((cd_233.drop 68).take 6).all fl_233 = true := by decide +kernel
theorem ck_233_8 : ((cd_233.drop 74).take 16).all fl_233 = true := by decide +kernel
theorem ck_233 : xmchk 233 cd_233 [0, 9, 12, 22, 25, 28, 160, 174, 188, 193, 217, 241, 246, 260, 274, 279, 293, 307, 312, 326, 340, 345, 354, 363, 368, 403, 438, 443, 452, 461, 466, 480, 494, 499, 508, 517, 522, 536, 550, 555, 564, 573, 578, 587, 596, 601, 619, 620, 623, 641, 642, 645, 650, 659, 668, 673, 682, 691, 696, 710, 724, 729, 738, 747, 752, 761, 770, 775, 799, 823, 828, 842, 856, 861, 880, 899, 904, 908, 912, 917, 921, 925, 930, 934, 938, 943, 952, 961, 966, 972] = true := by
  have h : xmt[233]? = some (yL_law, cL_law, 4, (Option.some Jvm.ClassFile.FieldType.boolean), 9, 215) := rfl
  unfold xmchk
  rw [h]
  simp only [Bool.and_eq_true, decide_eq_true_eq]
  refine ⟨rfl, ?_⟩
  have e : cd_233 = ((cd_233.drop 0).take 10) ++ (((cd_233.drop 10).take 8) ++ (((cd_233.drop 18).take 7) ++ (((cd_233.drop 25).take 8) ++ (((cd_233.drop 33).take 12) ++ (((cd_233.drop 45).take 14) ++ (((cd_233.drop 59).take 9) ++ (((cd_233.drop 68).take 6) ++ (((cd_233.drop 74).take 16))))))))) := rfl
  have g : cd_233.all fl_233 = true := by
    rw [e]
    simp only [List.all_append, Bool.and_eq_true]
    exact ⟨ck_233_0, ⟨ck_233_1, ⟨ck_233_2, ⟨ck_233_3, ⟨ck_233_4, ⟨ck_233_5, ⟨ck_233_6, ⟨ck_233_7, ck_233_8⟩⟩⟩⟩⟩⟩⟩⟩
  exact g
theorem xall_ck {mi : Nat} {blks : List (List xI)} (h : xprog[mi]? = some blks) : ∃ pcs, xmchk mi blks pcs = true := by
  match mi, h with
  | 0, h => cases h; exact ⟨_, ck_0⟩
  | 1, h => cases h; exact ⟨_, ck_1⟩
  | 2, h => cases h; exact ⟨_, ck_2⟩
  | 3, h => cases h; exact ⟨_, ck_3⟩
  | 4, h => cases h; exact ⟨_, ck_4⟩
  | 5, h => cases h; exact ⟨_, ck_5⟩
  | 6, h => cases h; exact ⟨_, ck_6⟩
  | 7, h => cases h; exact ⟨_, ck_7⟩
  | 8, h => cases h; exact ⟨_, ck_8⟩
  | 9, h => cases h; exact ⟨_, ck_9⟩
  | 10, h => cases h; exact ⟨_, ck_10⟩
  | 11, h => cases h; exact ⟨_, ck_11⟩
  | 12, h => cases h; exact ⟨_, ck_12⟩
  | 13, h => cases h; exact ⟨_, ck_13⟩
  | 14, h => cases h; exact ⟨_, ck_14⟩
  | 15, h => cases h; exact ⟨_, ck_15⟩
  | 16, h => cases h; exact ⟨_, ck_16⟩
  | 17, h => cases h; exact ⟨_, ck_17⟩
  | 18, h => cases h; exact ⟨_, ck_18⟩
  | 19, h => cases h; exact ⟨_, ck_19⟩
  | 20, h => cases h; exact ⟨_, ck_20⟩
  | 21, h => cases h; exact ⟨_, ck_21⟩
  | 22, h => cases h; exact ⟨_, ck_22⟩
  | 23, h => cases h; exact ⟨_, ck_23⟩
  | 24, h => cases h; exact ⟨_, ck_24⟩
  | 25, h => cases h; exact ⟨_, ck_25⟩
  | 26, h => cases h; exact ⟨_, ck_26⟩
  | 27, h => cases h; exact ⟨_, ck_27⟩
  | 28, h => cases h; exact ⟨_, ck_28⟩
  | 29, h => cases h; exact ⟨_, ck_29⟩
  | 30, h => cases h; exact ⟨_, ck_30⟩
  | 31, h => cases h; exact ⟨_, ck_31⟩
  | 32, h => cases h; exact ⟨_, ck_32⟩
  | 33, h => cases h; exact ⟨_, ck_33⟩
  | 34, h => cases h; exact ⟨_, ck_34⟩
  | 35, h => cases h; exact ⟨_, ck_35⟩
  | 36, h => cases h; exact ⟨_, ck_36⟩
  | 37, h => cases h; exact ⟨_, ck_37⟩
  | 38, h => cases h; exact ⟨_, ck_38⟩
  | 39, h => cases h; exact ⟨_, ck_39⟩
  | 40, h => cases h; exact ⟨_, ck_40⟩
  | 41, h => cases h; exact ⟨_, ck_41⟩
  | 42, h => cases h; exact ⟨_, ck_42⟩
  | 43, h => cases h; exact ⟨_, ck_43⟩
  | 44, h => cases h; exact ⟨_, ck_44⟩
  | 45, h => cases h; exact ⟨_, ck_45⟩
  | 46, h => cases h; exact ⟨_, ck_46⟩
  | 47, h => cases h; exact ⟨_, ck_47⟩
  | 48, h => cases h; exact ⟨_, ck_48⟩
  | 49, h => cases h; exact ⟨_, ck_49⟩
  | 50, h => cases h; exact ⟨_, ck_50⟩
  | 51, h => cases h; exact ⟨_, ck_51⟩
  | 52, h => cases h; exact ⟨_, ck_52⟩
  | 53, h => cases h; exact ⟨_, ck_53⟩
  | 54, h => cases h; exact ⟨_, ck_54⟩
  | 55, h => cases h; exact ⟨_, ck_55⟩
  | 56, h => cases h; exact ⟨_, ck_56⟩
  | 57, h => cases h; exact ⟨_, ck_57⟩
  | 58, h => cases h; exact ⟨_, ck_58⟩
  | 59, h => cases h; exact ⟨_, ck_59⟩
  | 60, h => cases h; exact ⟨_, ck_60⟩
  | 61, h => cases h; exact ⟨_, ck_61⟩
  | 62, h => cases h; exact ⟨_, ck_62⟩
  | 63, h => cases h; exact ⟨_, ck_63⟩
  | 64, h => cases h; exact ⟨_, ck_64⟩
  | 65, h => cases h; exact ⟨_, ck_65⟩
  | 66, h => cases h; exact ⟨_, ck_66⟩
  | 67, h => cases h; exact ⟨_, ck_67⟩
  | 68, h => cases h; exact ⟨_, ck_68⟩
  | 69, h => cases h; exact ⟨_, ck_69⟩
  | 70, h => cases h; exact ⟨_, ck_70⟩
  | 71, h => cases h; exact ⟨_, ck_71⟩
  | 72, h => cases h; exact ⟨_, ck_72⟩
  | 73, h => cases h; exact ⟨_, ck_73⟩
  | 74, h => cases h; exact ⟨_, ck_74⟩
  | 75, h => cases h; exact ⟨_, ck_75⟩
  | 76, h => cases h; exact ⟨_, ck_76⟩
  | 77, h => cases h; exact ⟨_, ck_77⟩
  | 78, h => cases h; exact ⟨_, ck_78⟩
  | 79, h => cases h; exact ⟨_, ck_79⟩
  | 80, h => cases h; exact ⟨_, ck_80⟩
  | 81, h => cases h; exact ⟨_, ck_81⟩
  | 82, h => cases h; exact ⟨_, ck_82⟩
  | 83, h => cases h; exact ⟨_, ck_83⟩
  | 84, h => cases h; exact ⟨_, ck_84⟩
  | 85, h => cases h; exact ⟨_, ck_85⟩
  | 86, h => cases h; exact ⟨_, ck_86⟩
  | 87, h => cases h; exact ⟨_, ck_87⟩
  | 88, h => cases h; exact ⟨_, ck_88⟩
  | 89, h => cases h; exact ⟨_, ck_89⟩
  | 90, h => cases h; exact ⟨_, ck_90⟩
  | 91, h => cases h; exact ⟨_, ck_91⟩
  | 92, h => cases h; exact ⟨_, ck_92⟩
  | 93, h => cases h; exact ⟨_, ck_93⟩
  | 94, h => cases h; exact ⟨_, ck_94⟩
  | 95, h => cases h; exact ⟨_, ck_95⟩
  | 96, h => cases h; exact ⟨_, ck_96⟩
  | 97, h => cases h; exact ⟨_, ck_97⟩
  | 98, h => cases h; exact ⟨_, ck_98⟩
  | 99, h => cases h; exact ⟨_, ck_99⟩
  | 100, h => cases h; exact ⟨_, ck_100⟩
  | 101, h => cases h; exact ⟨_, ck_101⟩
  | 102, h => cases h; exact ⟨_, ck_102⟩
  | 103, h => cases h; exact ⟨_, ck_103⟩
  | 104, h => cases h; exact ⟨_, ck_104⟩
  | 105, h => cases h; exact ⟨_, ck_105⟩
  | 106, h => cases h; exact ⟨_, ck_106⟩
  | 107, h => cases h; exact ⟨_, ck_107⟩
  | 108, h => cases h; exact ⟨_, ck_108⟩
  | 109, h => cases h; exact ⟨_, ck_109⟩
  | 110, h => cases h; exact ⟨_, ck_110⟩
  | 111, h => cases h; exact ⟨_, ck_111⟩
  | 112, h => cases h; exact ⟨_, ck_112⟩
  | 113, h => cases h; exact ⟨_, ck_113⟩
  | 114, h => cases h; exact ⟨_, ck_114⟩
  | 115, h => cases h; exact ⟨_, ck_115⟩
  | 116, h => cases h; exact ⟨_, ck_116⟩
  | 117, h => cases h; exact ⟨_, ck_117⟩
  | 118, h => cases h; exact ⟨_, ck_118⟩
  | 119, h => cases h; exact ⟨_, ck_119⟩
  | 120, h => cases h; exact ⟨_, ck_120⟩
  | 121, h => cases h; exact ⟨_, ck_121⟩
  | 122, h => cases h; exact ⟨_, ck_122⟩
  | 123, h => cases h; exact ⟨_, ck_123⟩
  | 124, h => cases h; exact ⟨_, ck_124⟩
  | 125, h => cases h; exact ⟨_, ck_125⟩
  | 126, h => cases h; exact ⟨_, ck_126⟩
  | 127, h => cases h; exact ⟨_, ck_127⟩
  | 128, h => cases h; exact ⟨_, ck_128⟩
  | 129, h => cases h; exact ⟨_, ck_129⟩
  | 130, h => cases h; exact ⟨_, ck_130⟩
  | 131, h => cases h; exact ⟨_, ck_131⟩
  | 132, h => cases h; exact ⟨_, ck_132⟩
  | 133, h => cases h; exact ⟨_, ck_133⟩
  | 134, h => cases h; exact ⟨_, ck_134⟩
  | 135, h => cases h; exact ⟨_, ck_135⟩
  | 136, h => cases h; exact ⟨_, ck_136⟩
  | 137, h => cases h; exact ⟨_, ck_137⟩
  | 138, h => cases h; exact ⟨_, ck_138⟩
  | 139, h => cases h; exact ⟨_, ck_139⟩
  | 140, h => cases h; exact ⟨_, ck_140⟩
  | 141, h => cases h; exact ⟨_, ck_141⟩
  | 142, h => cases h; exact ⟨_, ck_142⟩
  | 143, h => cases h; exact ⟨_, ck_143⟩
  | 144, h => cases h; exact ⟨_, ck_144⟩
  | 145, h => cases h; exact ⟨_, ck_145⟩
  | 146, h => cases h; exact ⟨_, ck_146⟩
  | 147, h => cases h; exact ⟨_, ck_147⟩
  | 148, h => cases h; exact ⟨_, ck_148⟩
  | 149, h => cases h; exact ⟨_, ck_149⟩
  | 150, h => cases h; exact ⟨_, ck_150⟩
  | 151, h => cases h; exact ⟨_, ck_151⟩
  | 152, h => cases h; exact ⟨_, ck_152⟩
  | 153, h => cases h; exact ⟨_, ck_153⟩
  | 154, h => cases h; exact ⟨_, ck_154⟩
  | 155, h => cases h; exact ⟨_, ck_155⟩
  | 156, h => cases h; exact ⟨_, ck_156⟩
  | 157, h => cases h; exact ⟨_, ck_157⟩
  | 158, h => cases h; exact ⟨_, ck_158⟩
  | 159, h => cases h; exact ⟨_, ck_159⟩
  | 160, h => cases h; exact ⟨_, ck_160⟩
  | 161, h => cases h; exact ⟨_, ck_161⟩
  | 162, h => cases h; exact ⟨_, ck_162⟩
  | 163, h => cases h; exact ⟨_, ck_163⟩
  | 164, h => cases h; exact ⟨_, ck_164⟩
  | 165, h => cases h; exact ⟨_, ck_165⟩
  | 166, h => cases h; exact ⟨_, ck_166⟩
  | 167, h => cases h; exact ⟨_, ck_167⟩
  | 168, h => cases h; exact ⟨_, ck_168⟩
  | 169, h => cases h; exact ⟨_, ck_169⟩
  | 170, h => cases h; exact ⟨_, ck_170⟩
  | 171, h => cases h; exact ⟨_, ck_171⟩
  | 172, h => cases h; exact ⟨_, ck_172⟩
  | 173, h => cases h; exact ⟨_, ck_173⟩
  | 174, h => cases h; exact ⟨_, ck_174⟩
  | 175, h => cases h; exact ⟨_, ck_175⟩
  | 176, h => cases h; exact ⟨_, ck_176⟩
  | 177, h => cases h; exact ⟨_, ck_177⟩
  | 178, h => cases h; exact ⟨_, ck_178⟩
  | 179, h => cases h; exact ⟨_, ck_179⟩
  | 180, h => cases h; exact ⟨_, ck_180⟩
  | 181, h => cases h; exact ⟨_, ck_181⟩
  | 182, h => cases h; exact ⟨_, ck_182⟩
  | 183, h => cases h; exact ⟨_, ck_183⟩
  | 184, h => cases h; exact ⟨_, ck_184⟩
  | 185, h => cases h; exact ⟨_, ck_185⟩
  | 186, h => cases h; exact ⟨_, ck_186⟩
  | 187, h => cases h; exact ⟨_, ck_187⟩
  | 188, h => cases h; exact ⟨_, ck_188⟩
  | 189, h => cases h; exact ⟨_, ck_189⟩
  | 190, h => cases h; exact ⟨_, ck_190⟩
  | 191, h => cases h; exact ⟨_, ck_191⟩
  | 192, h => cases h; exact ⟨_, ck_192⟩
  | 193, h => cases h; exact ⟨_, ck_193⟩
  | 194, h => cases h; exact ⟨_, ck_194⟩
  | 195, h => cases h; exact ⟨_, ck_195⟩
  | 196, h => cases h; exact ⟨_, ck_196⟩
  | 197, h => cases h; exact ⟨_, ck_197⟩
  | 198, h => cases h; exact ⟨_, ck_198⟩
  | 199, h => cases h; exact ⟨_, ck_199⟩
  | 200, h => cases h; exact ⟨_, ck_200⟩
  | 201, h => cases h; exact ⟨_, ck_201⟩
  | 202, h => cases h; exact ⟨_, ck_202⟩
  | 203, h => cases h; exact ⟨_, ck_203⟩
  | 204, h => cases h; exact ⟨_, ck_204⟩
  | 205, h => cases h; exact ⟨_, ck_205⟩
  | 206, h => cases h; exact ⟨_, ck_206⟩
  | 207, h => cases h; exact ⟨_, ck_207⟩
  | 208, h => cases h; exact ⟨_, ck_208⟩
  | 209, h => cases h; exact ⟨_, ck_209⟩
  | 210, h => cases h; exact ⟨_, ck_210⟩
  | 211, h => cases h; exact ⟨_, ck_211⟩
  | 212, h => cases h; exact ⟨_, ck_212⟩
  | 213, h => cases h; exact ⟨_, ck_213⟩
  | 214, h => cases h; exact ⟨_, ck_214⟩
  | 215, h => cases h; exact ⟨_, ck_215⟩
  | 216, h => cases h; exact ⟨_, ck_216⟩
  | 217, h => cases h; exact ⟨_, ck_217⟩
  | 218, h => cases h; exact ⟨_, ck_218⟩
  | 219, h => cases h; exact ⟨_, ck_219⟩
  | 220, h => cases h; exact ⟨_, ck_220⟩
  | 221, h => cases h; exact ⟨_, ck_221⟩
  | 222, h => cases h; exact ⟨_, ck_222⟩
  | 223, h => cases h; exact ⟨_, ck_223⟩
  | 224, h => cases h; exact ⟨_, ck_224⟩
  | 225, h => cases h; exact ⟨_, ck_225⟩
  | 226, h => cases h; exact ⟨_, ck_226⟩
  | 227, h => cases h; exact ⟨_, ck_227⟩
  | 228, h => cases h; exact ⟨_, ck_228⟩
  | 229, h => cases h; exact ⟨_, ck_229⟩
  | 230, h => cases h; exact ⟨_, ck_230⟩
  | 231, h => cases h; exact ⟨_, ck_231⟩
  | 232, h => cases h; exact ⟨_, ck_232⟩
  | 233, h => cases h; exact ⟨_, ck_233⟩
  | n + 234, h => exact absurd (List.getElem?_eq_some_iff.mp h).1 (by rw [show xprog.length = 234 from rfl]; omega)
theorem heads_getD : ∀ (l : List (List xI)) (b : Nat), (l.map xhd).getD b 0 = xhd ((l[b]?).getD []) := by
  intro l
  induction l with
  | nil => intro b; rfl
  | cons x l ih =>
    intro b
    cases b with
    | zero => rfl
    | succ b => exact ih b
theorem xchk_at {mi : Nat} {t : xT} (ht : xmt[mi]? = some t) (b : Nat) : xchain t.1.cls t.2.1 (xpb mi) t.2.2.2.2.1 t.2.2.2.2.2 t.2.2.1 t.2.2.2.1 (decide (t.1.name = "<init>")) (xpb mi b) (xcd mi b) = true := by
  cases hb : xprog[mi]? with
  | none =>
    have e : xcd mi b = [] := by unfold xcd; rw [hb]; rfl
    rw [e]
    rfl
  | some blks =>
    obtain ⟨pcs, hp⟩ := xall_ck hb
    unfold xmchk at hp
    rw [ht] at hp
    simp only [Bool.and_eq_true, decide_eq_true_eq] at hp
    obtain ⟨h1, h2⟩ := hp
    have e : ∀ b, xcd mi b = (blks[b]?).getD [] := fun b => by unfold xcd; rw [hb]; rfl
    have hpb : (fun b => pcs.getD b 0) = xpb mi := by
      funext b
      rw [← h1, heads_getD]
      unfold xpb
      rw [e b]
    rw [hpb] at h2
    unfold xpb
    rw [e b]
    cases hbb : blks[b]? with
    | none => rfl
    | some es =>
      exact List.all_eq_true.mp h2 es (List.mem_of_getElem? hbb)

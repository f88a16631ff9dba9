/-! the check of every instruction against the machine and the tables' words -/
def xnest : Jvm.Cond → Bool | .fieldLinkNest .. => true | .methodLinkNest .. => true | _ => false
def xgw (w : Jvm.Cond) : Bool := goodWord w || xnest w
/-- the tables' words that stay, whatever the arguments -/
def xTb (U : State) : Prop := ∀ w ∈ lw_tbl, xgw w = true → ∀ a : Array Value, w.before a U = true
def xtl : List Jvm.Cond := lw_tbl.filter xgw
theorem xTb.all {U : State} (h : xTb U) (a : Array Value) : ∀ w ∈ xtl, w.before a U = true := fun w hw => h w (List.mem_filter.mp hw).1 (List.mem_filter.mp hw).2 a
theorem xTb.warm {s U : State} (hW : s.WarmedH U.vm) (h : xTb s) : xTb U := by
  intro w hw hg a
  rcases Bool.or_eq_true_iff.mp hg with h2 | h2
  · exact word_at hW (good_of_word h2) (h w hw hg a)
  · match w, h2 with
    | .fieldLinkNest c i r n d ho, _ => exact va_Nw.use rfl (va_Nw.warmF hW (h _ hw hg #[]))
    | .methodLinkNest c i x ho, _ => exact va_Nw.use rfl (va_Nw.warmM hW (h _ hw hg #[]))
theorem xlay_in {C : String} {T : u_T} {N : Nat} (h : ∀ w ∈ u_ws C T N, w ∈ lw_tbl) : ∀ w ∈ u_ws C T N, w ∈ xtl := by
  intro w hw
  refine List.mem_filter.mpr ⟨h w hw, ?_⟩
  obtain ⟨k, -, rfl⟩ := List.mem_map.mp hw
  unfold u_lay
  split <;> rfl
theorem xlay_0 : ∀ w ∈ u_ws RX0 TX0 5, w ∈ lw_tbl := by decide +kernel
theorem xlay_1 : ∀ w ∈ u_ws RX1 TX1 1, w ∈ lw_tbl := by decide +kernel
theorem xlay_2 : ∀ w ∈ u_ws RX2 TX2 10, w ∈ lw_tbl := by decide +kernel
theorem xlay_3 : ∀ w ∈ u_ws RX3 TX3 7, w ∈ lw_tbl := by decide +kernel
theorem xlay_4 : ∀ w ∈ u_ws RX4 TX4 7, w ∈ lw_tbl := by decide +kernel
theorem xlay_5 : ∀ w ∈ u_ws RX5 TX5 2, w ∈ lw_tbl := by decide +kernel
theorem xlay_6 : ∀ w ∈ u_ws RX6 TX6 3, w ∈ lw_tbl := by decide +kernel
theorem xlay_7 : ∀ w ∈ u_ws RX7 TX7 8, w ∈ lw_tbl := by decide +kernel
theorem xlay_8 : ∀ w ∈ u_ws RX8 TX8 10, w ∈ lw_tbl := by decide +kernel
theorem xlay_9 : ∀ w ∈ u_ws RX9 TX9 3, w ∈ lw_tbl := by decide +kernel
theorem xlay_10 : ∀ w ∈ u_ws RX10 TX10 6, w ∈ lw_tbl := by decide +kernel
def xty (ci : Nat) : Nat → FieldType := match ci with
  | 0 => tyX0
  | 1 => tyX1
  | 2 => tyX2
  | 3 => tyX3
  | 4 => tyX4
  | 5 => tyX5
  | 6 => tyX6
  | 7 => tyX7
  | 8 => tyX8
  | 9 => tyX9
  | _ => tyX10
def xrf : FieldType → Bool | .object _ => true | .array _ => true | _ => false
def xgood (q : vw_C) (ci : Nat) : Prop := (∀ w ∈ u_ws q.1 q.2.1 q.2.2, w ∈ xtl) ∧ (∀ k, k < q.2.2 → parseFieldDescriptor (q.2.1 k).2.2.1 = some (xty ci k)) ∧ (∀ a, a < q.2.2 → ∀ b, b < q.2.2 → a ≠ b → (q.2.1 a).2.1 ≠ (q.2.1 b).2.1) ∧ q.2.2 = (xbk ci).length ∧ ∀ k, k < q.2.2 → (xbk ci)[k]? = some (if xrf (xty ci k) = true then some none else none) ∧ (xrf (xty ci k) = false → xty ci k = .int ∨ xty ci k = .boolean)
theorem xgood_of {ci : Nat} {q : vw_C} (h : vwCl[ci]? = some q) : xgood q ci := by
  match ci, h with
  | 0, h => cases h; exact ⟨xlay_in xlay_0, tyX0_ok, nmX0, by decide +kernel, by decide +kernel⟩
  | 1, h => cases h; exact ⟨xlay_in xlay_1, tyX1_ok, nmX1, by decide +kernel, by decide +kernel⟩
  | 2, h => cases h; exact ⟨xlay_in xlay_2, tyX2_ok, nmX2, by decide +kernel, by decide +kernel⟩
  | 3, h => cases h; exact ⟨xlay_in xlay_3, tyX3_ok, nmX3, by decide +kernel, by decide +kernel⟩
  | 4, h => cases h; exact ⟨xlay_in xlay_4, tyX4_ok, nmX4, by decide +kernel, by decide +kernel⟩
  | 5, h => cases h; exact ⟨xlay_in xlay_5, tyX5_ok, nmX5, by decide +kernel, by decide +kernel⟩
  | 6, h => cases h; exact ⟨xlay_in xlay_6, tyX6_ok, nmX6, by decide +kernel, by decide +kernel⟩
  | 7, h => cases h; exact ⟨xlay_in xlay_7, tyX7_ok, nmX7, by decide +kernel, by decide +kernel⟩
  | 8, h => cases h; exact ⟨xlay_in xlay_8, tyX8_ok, nmX8, by decide +kernel, by decide +kernel⟩
  | 9, h => cases h; exact ⟨xlay_in xlay_9, tyX9_ok, nmX9, by decide +kernel, by decide +kernel⟩
  | 10, h => cases h; exact ⟨xlay_in xlay_10, tyX10_ok, nmX10, by decide +kernel, by decide +kernel⟩
  | n + 11, h => exact absurd h (by simp [vwCl])
def xcnd : Nat → Jvm.ClassFile.Cond | 0 => .eq | 1 => .ne | 2 => .lt | 3 => .ge | 4 => .gt | _ => .le
def xinstr (pb : Nat → Nat) (e : xI) : Instr := match e with
  | (pc, _, o, w, a, c, z, v, ts) => match o with
    | 0 => (match w with | 0 => .iconst v | 1 => .bipush v | 2 => .sipush v | _ => .ldc z)
    | 1 => (match w with | 0 => .iload a | _ => .iload_n (Fin.ofNat 4 a))
    | 2 => (match w with | 0 => .aload a | _ => .aload_n (Fin.ofNat 4 a))
    | 3 => (match w with | 0 => .lload a | _ => .lload_n (Fin.ofNat 4 a))
    | 4 => (match w with | 0 => .istore a | _ => .istore_n (Fin.ofNat 4 a))
    | 5 => (match w with | 0 => .astore a | _ => .astore_n (Fin.ofNat 4 a))
    | 6 => (match w with | 0 => .lstore a | _ => .lstore_n (Fin.ofNat 4 a))
    | 7 => .iinc a v
    | 8 => .iadd | 9 => .isub | 10 => .imul | 11 => .idiv | 12 => .irem | 13 => .iushr | 14 => .iand | 15 => .ixor
    | 16 => .i2l | 17 => .l2i
    | 18 => (match w with | 0 => .lconst (Fin.ofNat 2 v.toNat) | _ => .ldc2_w z)
    | 19 => .lcmp | 20 => .ladd | 21 => .lmul | 22 => .lrem | 23 => .dup | 24 => .dup2 | 25 => .pop
    | 26 => .goto ((pb a : Int) - pc)
    | 28 => .if_icmp (xcnd c) ((pb a : Int) - pc)
    | 29 => .ifCond (xcnd c) ((pb a : Int) - pc)
    | 30 => .tableswitch ((pb c : Int) - pc) v (v + ts.length - 1) (ts.map fun t => (pb t : Int) - pc).toArray
    | 31 => .arraylength | 32 => .iaload | 33 => .iastore
    | 34 => .getfield z | 35 => .getfield z | 36 => .putfield z | 37 => .putfield z | 38 => .new z | 39 => .newarray .int
    | 40 => .invokevirtual z | 41 => .invokevirtual z | 42 => .invokestatic z | 44 => .invokestatic z | 45 => .invokestatic z
    | 43 => .invokespecial z | 48 => .invokespecial z | 46 => .ireturn | 47 => .return_
    | _ => .nop
def xwat (ts : List Nat) (k : Nat) (w : Jvm.Cond) : Bool := decide (lw_tbl[ts.getD k 0]? = some w)
theorem xwat_in {ts : List Nat} {k : Nat} {w : Jvm.Cond} (h : xwat ts k w = true) : w ∈ lw_tbl := List.mem_of_getElem? (of_decide_eq_true h)
def xfck (own : String) (w ci k z : Nat) (ts : List Nat) : Bool := match vwCl[ci]? with
  | some q => decide (k < q.2.2) && decide ((q.2.1 k).1 = q.1) && xwat ts 0 (if w = 0 then .fieldLink own z q.1 (q.2.1 k).2.1 (q.2.1 k).2.2.1 else .fieldLinkNest own z q.1 (q.2.1 k).2.1 (q.2.1 k).2.2.1 "MergeLine")
  | none => false
def xfin (ci k : Nat) : Bool := match vwCl[ci]? with | some q => (q.2.1 k).2.2.2 | none => false
def xfow (ci k : Nat) : String := match vwCl[ci]? with | some q => (q.2.1 k).1 | none => ""
def xmck (own : String) (rf rl nest a z n : Nat) (ts : List Nat) : Bool := match xmt[a]? with
  | some t => decide (a < 233) && decide (t.2.2.2.2.1 + 1 ≤ rf) && decide (8 + (t.2.2.1 + 11) + t.2.2.2.2.2 ≤ rl) && decide ((parseMethodDescriptor t.1.desc).map (fun d => d.parameters.length) = some n) && xwat ts 0 (if nest = 0 then .methodLink own z t.1 else .methodLinkNest own z t.1 "MergeLine")
  | none => false
def xmy (a : Nat) : MethodName := match xmt[a]? with | some t => t.1 | none => ⟨"", "", ""⟩
def xck (own : String) (B : ByteArray) (pb : Nat → Nat) (rf rl nL : Nat) (ret : Option FieldType) (ini : Bool) (e : xI) : Bool := match e with
  | (pc, len, o, w, a, c, z, v, ts) =>
  (decide (o = 27) || decide (decode B pc = .ok (xinstr pb e, len))) && (match o with
    | 0 => decide (-2147483648 ≤ v) && decide (v ≤ 2147483647) && (match w with | 0 => decide (len = 1) | 1 => decide (len = 2) && decide ((Int8.ofInt v).toInt32 = Int32.ofInt v) | 2 => decide (len = 3) && decide ((Int16.ofInt v).toInt32 = Int32.ofInt v) | _ => decide (len = 2) && xwat ts 0 (.constant own z (Int32.ofInt v)))
    | 1 => (match w with | 0 => decide (len = 2) | _ => decide (len = 1) && decide (a < 4))
    | 2 => (match w with | 0 => decide (len = 2) | _ => decide (len = 1) && decide (a < 4))
    | 3 => (match w with | 0 => decide (len = 2) | _ => decide (len = 1) && decide (a < 4))
    | 4 => decide (a < nL) && (match w with | 0 => decide (len = 2) | _ => decide (len = 1) && decide (a < 4))
    | 5 => decide (a < nL) && (match w with | 0 => false | _ => decide (len = 1) && decide (a < 4))
    | 6 => decide (a + 1 < nL) && (match w with | 0 => decide (len = 2) | _ => decide (len = 1) && decide (a < 4))
    | 7 => decide (a < nL) && decide (len = 3)
    | 18 => (match w with | 0 => decide (len = 1) && (decide (v = 0) || decide (v = 1)) | _ => decide (len = 3) && decide (-9223372036854775808 ≤ v) && decide (v ≤ 9223372036854775807) && xwat ts 0 (.constantLong own z (Int64.ofInt v)))
    | 26 => decide (len = 3)
    | 27 => decide (len = 0) && decide (pb a = pc)
    | 28 => decide (len = 3)
    | 29 => decide (len = 3)
    | 30 => true
    | 34 => decide (len = 3) && xfck own w a c z ts
    | 35 => decide (len = 3) && xfck own w a c z ts
    | 36 => decide (len = 3) && xfck own 0 a c z ts && decide (xfin a c = false) && ((decide (w = 0) && decide (xty a c = .int)) || (decide (w = 1) && decide (xty a c = .boolean)))
    | 37 => decide (len = 3) && xfck own 0 a c z ts && decide (xfin a c = true) && xrf (xty a c) && decide (xfow a c = own) && ini
    | 38 => decide (len = 3) && (match vwCl[a]? with | some q => xwat ts 0 (.classLink own z q.1) | none => false)
    | 39 => decide (len = 2)
    | 40 => decide (len = 3) && decide (0 < c) && xmck own rf rl v.toNat a z (c - 1) ts && xwat ts 1 (.instanceMethod (xmy a)) && xwat ts 2 (.selects (xmy a).cls (xmy a) (xmy a)) && (match vwCl[w]? with | some q => decide (q.1 = (xmy a).cls) | none => false)
    | 41 => decide (len = 3) && decide (0 < c) && xmck own rf rl v.toNat a z (c - 1) ts && xwat ts 1 (.instanceMethod (xmy a)) && xwat ts 2 (.selects (xmy a).cls (xmy a) (xmy a)) && (match vwCl[w]? with | some q => decide (q.1 = (xmy a).cls) | none => false)
    | 42 => decide (len = 3) && xmck own rf rl w a z c ts && xwat ts 1 (.static (xmy a))
    | 48 => decide (len = 3) && decide (0 < c) && xmck own rf rl w a z (c - 1) ts && xwat ts 1 (.instanceMethod (xmy a)) && decide ((xmy a).name = "<init>") && (match xmt[a]? with | some t => decide (t.2.2.2.1 = none) | none => false)
    | 43 => decide (len = 3) && xwat ts 0 (.methodLink own z Lib.objectInit) && decide (1 ≤ rf) && decide (20 ≤ rl)
    | 44 => decide (len = 3) && xwat ts 0 (.methodLink own z arraycopyName) && decide (1 ≤ rf) && decide (8 + (nativeFrameWords "java/lang/System" "arraycopy" 5 + 11) ≤ rl)
    | 45 => decide (len = 3) && xwat ts 0 (.methodLink own z Lib.Math.min.name) && decide (1 ≤ rf) && decide (21 ≤ rl)
    | 46 => decide (len = 1) && ((decide (a = 1) && decide (ret = some .boolean)) || (decide (a = 0) && decide (ret = some .int)))
    | 47 => decide (len = 1) && decide (ret = none)
    | _ => decide (len = 1) && decide (o ≤ 33))
/-- a block: one instruction behind the other, each checked -/
def xchain (own : String) (B : ByteArray) (pb : Nat → Nat) (rf rl nL : Nat) (ret : Option FieldType) (ini : Bool) : Nat → List xI → Bool
  | _, [] => true
  | pc, e :: es => decide (e.1 = pc) && xck own B pb rf rl nL ret ini e && xchain own B pb rf rl nL ret ini (pc + e.2.1) es
def xhd (es : List xI) : Nat := match es with | e :: _ => e.1 | [] => 0
def xpb (mi b : Nat) : Nat := xhd (xcd mi b)
def xmchk (mi : Nat) (blks : List (List xI)) (pcs : List Nat) : Bool := match xmt[mi]? with
  | some t => decide (blks.map xhd = pcs) && blks.all fun es => xchain t.1.cls t.2.1 (fun b => pcs.getD b 0) t.2.2.2.2.1 t.2.2.2.2.2 t.2.2.1 t.2.2.2.1 (decide (t.1.name = "<init>")) (xhd es) es
  | none => false
theorem xw_oi1 : Jvm.Cond.instanceMethod Lib.objectInit ∈ lw_tbl := List.mem_of_getElem? (i := 73) (by decide +kernel)
theorem xw_oi2 : Jvm.Cond.code Lib.objectInit ⟨#[0xb1]⟩ 1 none ∈ lw_tbl := List.mem_of_getElem? (i := 74) (by decide +kernel)
theorem xw_ac1 : Jvm.Cond.native arraycopyName ∈ lw_tbl := List.mem_of_getElem? (i := 355) (by decide +kernel)
theorem xw_ac2 : Jvm.Cond.static arraycopyName ∈ lw_tbl := List.mem_of_getElem? (i := 354) (by decide +kernel)
theorem xw_ac3 : Jvm.Cond.initialized "java/lang/System" ∈ lw_tbl := List.mem_of_getElem? (i := 65) (by decide +kernel)
theorem xw_mm1 : Jvm.Cond.static Lib.Math.min.name ∈ lw_tbl := List.mem_of_getElem? (i := 933) (by decide +kernel)
theorem xw_mm2 : Jvm.Cond.initialized "java/lang/Math" ∈ lw_tbl := List.mem_of_getElem? (i := 66) (by decide +kernel)
theorem xw_mm3 : Jvm.Cond.code Lib.Math.min.name Lib.Math.min.code 2 (some .int) ∈ lw_tbl := List.mem_of_getElem? (i := 934) (by decide +kernel)
theorem xw_arr : Jvm.Cond.arrayClass .int ∈ lw_tbl := List.mem_of_getElem? (i := 103) (by decide +kernel)
theorem xw_new_0 : Jvm.Cond.instantiable RX0 5 ∈ lw_tbl ∧ Jvm.Cond.initialized RX0 ∈ lw_tbl := ⟨List.mem_of_getElem? (i := 82) (by decide +kernel), List.mem_of_getElem? (i := 56) (by decide +kernel)⟩
theorem xw_new_1 : Jvm.Cond.instantiable RX1 1 ∈ lw_tbl ∧ Jvm.Cond.initialized RX1 ∈ lw_tbl := ⟨List.mem_of_getElem? (i := 111) (by decide +kernel), List.mem_of_getElem? (i := 58) (by decide +kernel)⟩
theorem xw_new_2 : Jvm.Cond.instantiable RX2 10 ∈ lw_tbl ∧ Jvm.Cond.initialized RX2 ∈ lw_tbl := ⟨List.mem_of_getElem? (i := 105) (by decide +kernel), List.mem_of_getElem? (i := 57) (by decide +kernel)⟩
theorem xw_new_3 : Jvm.Cond.instantiable RX3 7 ∈ lw_tbl ∧ Jvm.Cond.initialized RX3 ∈ lw_tbl := ⟨List.mem_of_getElem? (i := 121) (by decide +kernel), List.mem_of_getElem? (i := 59) (by decide +kernel)⟩
theorem xw_new_4 : Jvm.Cond.instantiable RX4 7 ∈ lw_tbl ∧ Jvm.Cond.initialized RX4 ∈ lw_tbl := ⟨List.mem_of_getElem? (i := 76) (by decide +kernel), List.mem_of_getElem? (i := 55) (by decide +kernel)⟩
theorem xw_new_5 : Jvm.Cond.instantiable RX5 2 ∈ lw_tbl ∧ Jvm.Cond.initialized RX5 ∈ lw_tbl := ⟨List.mem_of_getElem? (i := 182) (by decide +kernel), List.mem_of_getElem? (i := 60) (by decide +kernel)⟩
theorem xw_new_6 : Jvm.Cond.instantiable RX6 3 ∈ lw_tbl ∧ Jvm.Cond.initialized RX6 ∈ lw_tbl := ⟨List.mem_of_getElem? (i := 230) (by decide +kernel), List.mem_of_getElem? (i := 62) (by decide +kernel)⟩
theorem xw_new_7 : Jvm.Cond.instantiable RX7 8 ∈ lw_tbl ∧ Jvm.Cond.initialized RX7 ∈ lw_tbl := ⟨List.mem_of_getElem? (i := 197) (by decide +kernel), List.mem_of_getElem? (i := 61) (by decide +kernel)⟩
theorem xw_new_8 : Jvm.Cond.instantiable RX8 10 ∈ lw_tbl ∧ Jvm.Cond.initialized RX8 ∈ lw_tbl := ⟨List.mem_of_getElem? (i := 248) (by decide +kernel), List.mem_of_getElem? (i := 63) (by decide +kernel)⟩
theorem xw_new_9 : Jvm.Cond.instantiable RX9 3 ∈ lw_tbl ∧ Jvm.Cond.initialized RX9 ∈ lw_tbl := ⟨List.mem_of_getElem? (i := 68) (by decide +kernel), List.mem_of_getElem? (i := 54) (by decide +kernel)⟩
theorem xw_new_10 : Jvm.Cond.instantiable RX10 6 ∈ lw_tbl ∧ Jvm.Cond.initialized RX10 ∈ lw_tbl := ⟨List.mem_of_getElem? (i := 999) (by decide +kernel), List.mem_of_getElem? (i := 64) (by decide +kernel)⟩
theorem xw_new {ci : Nat} {q : vw_C} (h : vwCl[ci]? = some q) : Jvm.Cond.instantiable q.1 q.2.2 ∈ lw_tbl ∧ Jvm.Cond.initialized q.1 ∈ lw_tbl := by
  match ci, h with
  | 0, h => cases h; exact xw_new_0
  | 1, h => cases h; exact xw_new_1
  | 2, h => cases h; exact xw_new_2
  | 3, h => cases h; exact xw_new_3
  | 4, h => cases h; exact xw_new_4
  | 5, h => cases h; exact xw_new_5
  | 6, h => cases h; exact xw_new_6
  | 7, h => cases h; exact xw_new_7
  | 8, h => cases h; exact xw_new_8
  | 9, h => cases h; exact xw_new_9
  | 10, h => cases h; exact xw_new_10
  | n + 11, h => exact absurd h (by simp [vwCl])
def xpl : List (Nat × Nat) := [(85, 56), (406, 56), (990, 56), (342, 56), (346, 56), (338, 56), (980, 56), (422, 56), (426, 56), (435, 56), (442, 56), (430, 56), (359, 56), (351, 56), (692, 56), (817, 56), (931, 56), (114, 58), (414, 58), (378, 58), (755, 58), (942, 58), (108, 57), (334, 57), (457, 57), (462, 57), (617, 57), (525, 57), (590, 57), (872, 57), (822, 57), (876, 57), (854, 57), (483, 57), (671, 57), (550, 57), (554, 57), (621, 57), (474, 57), (479, 57), (493, 57), (502, 57), (512, 57), (529, 57), (675, 57), (683, 57), (537, 57), (704, 57), (574, 57), (947, 57), (124, 59), (497, 59), (487, 59), (506, 59), (516, 59), (533, 59), (541, 59), (708, 59), (578, 59), (581, 59), (952, 59), (79, 55), (629, 55), (863, 55), (603, 55), (667, 55), (658, 55), (642, 55), (654, 55), (728, 55), (687, 55), (700, 55), (723, 55), (732, 55), (760, 55), (768, 55), (773, 55), (813, 55), (838, 55), (846, 55), (927, 55), (185, 60), (650, 60), (594, 60), (662, 60), (679, 60), (608, 60), (957, 60), (233, 62), (637, 62), (798, 62), (803, 62), (807, 62), (901, 62), (910, 62), (919, 62), (967, 62), (200, 61), (646, 61), (696, 61), (741, 61), (736, 61), (850, 61), (764, 61), (985, 61), (779, 61), (783, 61), (787, 61), (868, 61), (714, 61), (718, 61), (745, 61), (751, 61), (830, 61), (826, 61), (834, 61), (842, 61), (962, 61), (251, 63), (370, 63), (994, 63), (570, 63), (566, 63), (374, 63), (386, 63), (394, 63), (792, 63), (410, 63), (417, 63), (438, 63), (446, 63), (938, 63), (71, 54), (327, 54), (363, 54), (382, 54), (390, 54), (398, 54), (453, 54), (466, 54), (521, 54), (546, 54), (558, 54), (562, 54), (586, 54), (599, 54), (613, 54), (625, 54), (633, 54), (859, 54), (881, 54), (886, 54), (891, 54), (897, 54), (906, 54), (915, 54), (923, 54), (972, 54), (976, 54), (330, 54), (449, 54), (470, 54), (402, 54), (366, 54), (1034, 64), (1002, 64), (1039, 64), (1042, 64), (1230, 64), (1030, 64), (1027, 64), (1046, 64), (1050, 64), (1068, 64), (1064, 64), (1073, 64), (1088, 64), (1085, 64), (1081, 64), (1077, 64), (1283, 64), (1113, 64), (1097, 64), (1092, 64), (1118, 64), (1126, 64), (1109, 64), (1139, 64), (1151, 64), (1242, 64), (1246, 64), (1238, 64), (1135, 64), (1143, 64), (1147, 64), (1163, 64), (1159, 64), (1155, 64), (1180, 64), (1167, 64), (1176, 64), (1172, 64), (1184, 64), (1188, 64), (1214, 64), (1210, 64), (1206, 64), (1218, 64), (1234, 64), (1226, 64), (1263, 64), (1202, 64), (1250, 64), (1258, 64), (1222, 64), (1267, 64), (1198, 64), (1271, 64), (1292, 64), (1279, 64), (1275, 64), (1193, 64), (1301, 64), (1296, 64), (1305, 64), (1309, 64), (1313, 64), (1317, 64), (1321, 64), (1325, 64), (1329, 64), (1333, 64), (997, 53)]
set_option maxRecDepth 100000 in
theorem xcw_0 : (xmt_0.map fun t => Jvm.Cond.code t.1 t.2.1 t.2.2.1 t.2.2.2.1) = [85, 406, 990, 342, 346, 338, 980, 422, 426, 435, 442, 430, 359, 351, 692, 817, 931, 114, 414, 378, 755, 942, 108, 334, 457, 462, 617, 525, 590, 872, 822, 876, 854, 483, 671, 550, 554, 621, 474, 479].filterMap (fun i => lw_tbl[i]?) := rfl
set_option maxRecDepth 100000 in
theorem xcw_1 : (xmt_1.map fun t => Jvm.Cond.code t.1 t.2.1 t.2.2.1 t.2.2.2.1) = [493, 502, 512, 529, 675, 683, 537, 704, 574, 947, 124, 497, 487, 506, 516, 533, 541, 708, 578, 581, 952, 79, 629, 863, 603, 667, 658, 642, 654, 728, 687, 700, 723, 732, 760, 768, 773, 813, 838, 846].filterMap (fun i => lw_tbl[i]?) := rfl
set_option maxRecDepth 100000 in
theorem xcw_2 : (xmt_2.map fun t => Jvm.Cond.code t.1 t.2.1 t.2.2.1 t.2.2.2.1) = [927, 185, 650, 594, 662, 679, 608, 957, 233, 637, 798, 803, 807, 901, 910, 919, 967, 200, 646, 696, 741, 736, 850, 764, 985, 779, 783, 787, 868, 714, 718, 745, 751, 830, 826, 834, 842, 962, 251, 370].filterMap (fun i => lw_tbl[i]?) := rfl
set_option maxRecDepth 100000 in
theorem xcw_3 : (xmt_3.map fun t => Jvm.Cond.code t.1 t.2.1 t.2.2.1 t.2.2.2.1) = [994, 570, 566, 374, 386, 394, 792, 410, 417, 438, 446, 938, 71, 327, 363, 382, 390, 398, 453, 466, 521, 546, 558, 562, 586, 599, 613, 625, 633, 859, 881, 886, 891, 897, 906, 915, 923, 972, 976, 330].filterMap (fun i => lw_tbl[i]?) := rfl
set_option maxRecDepth 100000 in
theorem xcw_4 : (xmt_4.map fun t => Jvm.Cond.code t.1 t.2.1 t.2.2.1 t.2.2.2.1) = [449, 470, 402, 366, 1034, 1002, 1039, 1042, 1230, 1030, 1027, 1046, 1050, 1068, 1064, 1073, 1088, 1085, 1081, 1077, 1283, 1113, 1097, 1092, 1118, 1126, 1109, 1139, 1151, 1242, 1246, 1238, 1135, 1143, 1147, 1163, 1159, 1155, 1180, 1167].filterMap (fun i => lw_tbl[i]?) := rfl
set_option maxRecDepth 100000 in
theorem xcw_5 : ((xmt_5.take 33).map fun t => Jvm.Cond.code t.1 t.2.1 t.2.2.1 t.2.2.2.1) = [1176, 1172, 1184, 1188, 1214, 1210, 1206, 1218, 1234, 1226, 1263, 1202, 1250, 1258, 1222, 1267, 1198, 1271, 1292, 1279, 1275, 1193, 1301, 1296, 1305, 1309, 1313, 1317, 1321, 1325, 1329, 1333, 997].filterMap (fun i => lw_tbl[i]?) := rfl

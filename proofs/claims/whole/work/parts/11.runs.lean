/-! a run of the interpreter is a run of the machine -/
def xcl12 : List String := ["MergeLine$Book", "MergeLine$Cells", "MergeLine$Changes", "MergeLine$Edits", "MergeLine$Hall", "MergeLine$Lane", "MergeLine$Ledger", "MergeLine$Pile", "MergeLine$Tests", "MergeLine", "MergeLineModel", "MergeLineLaw"]
theorem xcl_all : (xmt.all fun t => decide (t.1.cls ∈ xcl12)) = true := by decide +kernel
theorem xfact {a : Nat} {t : xT} (ht : xmt[a]? = some t) : plainName t.1.cls = true ∧ (t.1.cls ≠ "java/lang/invoke/MethodHandle" ∧ t.1.cls ≠ "java/lang/invoke/VarHandle") ∧ Jvm.Cond.initialized t.1.cls ∈ lw_tbl := by
  have h := of_decide_eq_true (List.all_eq_true.mp xcl_all t (List.mem_of_getElem? ht))
  generalize t.1.cls = C at h ⊢
  unfold xcl12 at h
  simp only [List.mem_cons, List.not_mem_nil, or_false] at h
  rcases h with rfl | rfl | rfl | rfl | rfl | rfl | rfl | rfl | rfl | rfl | rfl | rfl
  · exact ⟨by decide, ⟨by decide, by decide⟩, List.mem_of_getElem? (i := 56) (by decide +kernel)⟩
  · exact ⟨by decide, ⟨by decide, by decide⟩, List.mem_of_getElem? (i := 58) (by decide +kernel)⟩
  · exact ⟨by decide, ⟨by decide, by decide⟩, List.mem_of_getElem? (i := 57) (by decide +kernel)⟩
  · exact ⟨by decide, ⟨by decide, by decide⟩, List.mem_of_getElem? (i := 59) (by decide +kernel)⟩
  · exact ⟨by decide, ⟨by decide, by decide⟩, List.mem_of_getElem? (i := 55) (by decide +kernel)⟩
  · exact ⟨by decide, ⟨by decide, by decide⟩, List.mem_of_getElem? (i := 60) (by decide +kernel)⟩
  · exact ⟨by decide, ⟨by decide, by decide⟩, List.mem_of_getElem? (i := 62) (by decide +kernel)⟩
  · exact ⟨by decide, ⟨by decide, by decide⟩, List.mem_of_getElem? (i := 61) (by decide +kernel)⟩
  · exact ⟨by decide, ⟨by decide, by decide⟩, List.mem_of_getElem? (i := 63) (by decide +kernel)⟩
  · exact ⟨by decide, ⟨by decide, by decide⟩, List.mem_of_getElem? (i := 54) (by decide +kernel)⟩
  · exact ⟨by decide, ⟨by decide, by decide⟩, List.mem_of_getElem? (i := 64) (by decide +kernel)⟩
  · exact ⟨by decide, ⟨by decide, by decide⟩, List.mem_of_getElem? (i := 53) (by decide +kernel)⟩
theorem xmck_of {own : String} {rf rl nest a zz n : Nat} {ts : List Nat} (h : xmck own rf rl nest a zz n ts = true) : ∃ t : xT, xmt[a]? = some t ∧ a < 233 ∧ t.2.2.2.2.1 + 1 ≤ rf ∧ 8 + (t.2.2.1 + 11) + t.2.2.2.2.2 ≤ rl ∧ (parseMethodDescriptor t.1.desc).map (fun d => d.parameters.length) = some n ∧ (if nest = 0 then Jvm.Cond.methodLink own zz t.1 else Jvm.Cond.methodLinkNest own zz t.1 "MergeLine") ∈ lw_tbl := by
  unfold xmck at h
  split at h
  · rename_i t ht
    simp only [Bool.and_eq_true, decide_eq_true_eq] at h
    exact ⟨t, ht, h.1.1.1.1, h.1.1.1.2, h.1.1.2, h.1.2, xwat_in h.2⟩
  · cases h
theorem xmy_of {a : Nat} {t : xT} (ht : xmt[a]? = some t) : xmy a = t.1 := by unfold xmy; rw [ht]
theorem xws1 {s : State} {t : xT} {y : MethodName} {B : ByteArray} {n : Nat} {r : Option FieldType} (hT : xTb s) (h : Jvm.Cond.code y B n r ∈ lw_tbl) : ∀ w ∈ [Jvm.Cond.code y B n r], ∀ (a' : Array Value) (U : State), s.WarmedH U.vm → w.before a' U = true := by
  intro w hw a' U hW
  rw [List.mem_singleton.mp hw]
  exact hT.warm hW _ h rfl a'
theorem xcallB {p : Program} {R : Room} {s : State} {m : MethodId} {args : Array Value} {c : Code} {own : String} {cc : ByteArray} {nL : Nat} {D : va_G} {cA : ClassId} {b Ls : Nat} {xs : Nat → Int32} {z : Nat} {σ : xS} {a zz n : Nat} {ts : List Nat} {rf rl : Nat} {t : xT} {q : xR} (C : xC p s m c own cc nL D cA b Ls xs z) (hR : rf ≤ R.frames ∧ rl ≤ R.locals) (hck : xmck own rf rl 0 a zz n ts = true) (ht : xmt[a]? = some t) :
    CallB R s args own zz t.1 t.2.1 t.2.2.1 t.2.2.2.1 [Jvm.Cond.code t.1 t.2.1 t.2.2.1 t.2.2.2.1] (xrm t σ q) (q.2.1.length - σ.1.length) (xsz q.2.1 - xsz σ.1) n := by
  obtain ⟨hx, hb, hml, hown, hT, -⟩ := C
  obtain ⟨t', ht', ha, h1, h2, h3, h4⟩ := xmck_of hck
  cases ht.symm.trans ht'
  rw [if_pos rfl] at h4
  obtain ⟨f1, f2, f3⟩ := xfact ht
  exact ⟨rfl, rfl, Nat.le_trans h1 hR.1, Nat.le_trans h2 hR.2, xws1 (t := t) hT (xcw_at ha ht), List.mem_singleton.mpr rfl, hT _ (xcw_at ha ht) rfl args, hT _ f3 rfl args, f2, fun sig h => by rw [h] at h3; exact (Option.some.inj h3).symm, hT _ h4 rfl args⟩
theorem xcallN {p : Program} {R : Room} {s : State} {m : MethodId} {args : Array Value} {c : Code} {own : String} {cc : ByteArray} {nL : Nat} {D : va_G} {cA : ClassId} {b Ls : Nat} {xs : Nat → Int32} {z : Nat} {σ : xS} {nest a zz n : Nat} {ts : List Nat} {rf rl : Nat} {t : xT} {q : xR} (C : xC p s m c own cc nL D cA b Ls xs z) (hR : rf ≤ R.frames ∧ rl ≤ R.locals) (hck : xmck own rf rl nest a zz n ts = true) (hnest : nest ≠ 0) (ht : xmt[a]? = some t) :
    va_CN R s args own zz t.1 "MergeLine" t.2.1 t.2.2.1 t.2.2.2.1 [Jvm.Cond.code t.1 t.2.1 t.2.2.1 t.2.2.2.1] (xrm t σ q) (q.2.1.length - σ.1.length) (xsz q.2.1 - xsz σ.1) n := by
  obtain ⟨hx, hb, hml, hown, hT, -⟩ := C
  obtain ⟨t', ht', ha, h1, h2, h3, h4⟩ := xmck_of hck
  cases ht.symm.trans ht'
  rw [if_neg hnest] at h4
  obtain ⟨f1, f2, f3⟩ := xfact ht
  exact ⟨⟨rfl, rfl, Nat.le_trans h1 hR.1, Nat.le_trans h2 hR.2, xws1 (t := t) hT (xcw_at ha ht), List.mem_singleton.mpr rfl⟩, hT _ (xcw_at ha ht) rfl args, hT _ f3 rfl args, f2, fun sig h => by rw [h] at h3; exact (Option.some.inj h3).symm, hT _ h4 rfl args⟩
theorem run_V {p : Program} {l : Launch} {e : Env} {R : Room} {s : State} {m : MethodId} {args : Array Value} {below : List Frame} {meth : Method} {c : Code} {own : String} {cc : ByteArray} {nL : Nat} {D : va_G} {cA : ClassId} {b Ls : Nat} {xs : Nat → Int32} {z n0 s0 : Nat} {σ : xS} {pc a w n zz nest h0 : Nat} {ts : List Nat} {rf rl : Nat} {as' T : List xV} {q : xR} (C : xC p s m c own cc nL D cA b Ls xs z) (hR : rf ≤ R.frames ∧ rl ≤ R.locals) (hdg : decode cc pc = .ok (.invokevirtual zz, 3)) (hck : xmck own rf rl nest a zz n ts = true) (hi : xwat ts 1 (.instanceMethod (xmy a)) = true) (hse : xwat ts 2 (.selects (xmy a).cls (xmy a) (xmy a)) = true) (hcl : (match vwCl[w]? with | some q => decide (q.1 = (xmy a).cls) | none => false) = true)
    (hn : as'.length = n) (his : xis σ h0 w = true) (hM : xMet l Ls xs a (.inr (.inr (.inl h0)) :: as') σ q) (hT8 : xle 8 T = true) (hcc : q.2.1.length ≤ R.cells + n0 ∧ xsz q.2.1 ≤ R.slots + s0) (hsz : xle2 σ q.2)
    {ad : Nat → Nat} {H : Heap} {locs : List Loc} {ls : Array Slot} {cells slots : Nat} (hP : va_P D vwCl (xws ad cA σ) H) (hD : va_D (fun q : Nat => z ≤ q) (xws ad cA σ)) (hS : va_S (fun q : Nat => z ≤ q) s.heap H locs) (hls : ls.size = nL) (hso : xso σ) (hSo : ∀ v ∈ as'.reverse ++ .inr (.inr (.inl h0)) :: T, xvo σ.1.length v) (hce : cells + n0 = σ.1.length) (hsl : slots + s0 = xsz σ.1) :
    va_Run p l e R s m args below meth c H locs cells slots (q.2.1.length - σ.1.length) (xsz q.2.1 - xsz σ.1) (F0 m pc ls ((as'.reverse ++ .inr (.inr (.inl h0)) :: T).map (xv ad b))) (T.map (xv ad b)) (xQ D cA z σ.1.length ad q ((Value.ref (ad h0) :: as'.map (xv ad b)).toArray)) (fun k => z ≤ k) := by
  obtain ⟨t, ht, ha, h1, h2, h3, h4⟩ := xmck_of hck
  have C' := C
  obtain ⟨hx, hb, hml, hown, hTb, hK, -⟩ := C
  have hvo : ∀ v ∈ (Sum.inr (Sum.inr (Sum.inl h0)) :: as' : List xV), xvo σ.1.length v := by
    intro v hv
    rcases List.mem_cons.mp hv with h | h
    · exact hSo v (by rw [h]; simp)
    · exact hSo v (by simp [h])
  have hMM := hM t ht D cA b z ad hso hvo
  rw [xmy_of ht] at hi hse hcl
  have hcat : (((T.map (xv ad b))).map fun v => v.category).sum ≤ 8 := xle_cat 8 T hT8
  obtain ⟨c0, hc0⟩ : ∃ ks, σ.1[h0]? = some (Sum.inr (w, ks)) := by
    unfold xis at his
    split at his
    · rename_i c1 ks hks
      rw [beq_iff_eq] at his
      subst his
      exact ⟨ks, hks⟩
    · cases his
  split at hcl
  · rename_i qc hqc
    have hC : qc.1 = t.1.cls := of_decide_eq_true hcl
    have hrecv := va_recv hK hP hqc (xws_at hc0)
    rw [hC] at hrecv
    have hpre : PreV s H t.1.cls (ad h0) (va_Pc ((Sum.inr (Sum.inr (Sum.inl h0)) :: as' : List xV).map (xv ad b)) (xWd D cA b Ls xs z ad σ)) (as'.map (xv ad b)) :=
      ⟨xWd_blind, hrecv, fun U hU hW => ⟨rfl, xWd_at (ad := ad) C' hP hD hS hU hW⟩⟩
    have hst : ((as'.reverse ++ Sum.inr (Sum.inr (Sum.inl h0)) :: T : List xV).map (xv ad b)) = (as'.map (xv ad b)).reverse ++ Value.ref (ad h0) :: T.map (xv ad b) := by
      rw [List.map_append, List.map_reverse, List.map_cons]
      rfl
    have hcm : cells + (q.2.1.length - σ.1.length) ≤ R.cells ∧ slots + (xsz q.2.1 - xsz σ.1) ≤ R.slots := by
      have g1 := hsz.1
      have g2 := hsz.2
      omega
    by_cases hnest : nest = 0
    · subst hnest
      exact va_runV (Ts := xtl) (n := n) ⟨hx, hb, hml, hown, hTb.all args⟩ hMM ⟨xcallB C' hR hck ht, hTb _ (xwat_in hi) rfl args, hTb _ (xwat_in hse) rfl args⟩ hpre rfl (by rw [List.length_map]; exact hn) hls hst (lv_room hcat) hdg hcm
    · exact va_runVN (Ts := xtl) (n := n) ⟨hx, hb, hml, hown, hTb.all args⟩ hMM ⟨xcallN C' hR hck hnest ht, hTb _ (xwat_in hi) rfl args, hTb _ (xwat_in hse) rfl args⟩ hpre rfl (by rw [List.length_map]; exact hn) hls hst (lv_room hcat) hdg hcm
  · cases hcl
theorem run_S {p : Program} {l : Launch} {e : Env} {R : Room} {s : State} {m : MethodId} {args : Array Value} {below : List Frame} {meth : Method} {c : Code} {own : String} {cc : ByteArray} {nL : Nat} {D : va_G} {cA : ClassId} {b Ls : Nat} {xs : Nat → Int32} {z n0 s0 : Nat} {σ : xS} {pc a n zz nest : Nat} {ts : List Nat} {rf rl : Nat} {as' T : List xV} {q : xR} (C : xC p s m c own cc nL D cA b Ls xs z) (hR : rf ≤ R.frames ∧ rl ≤ R.locals) (hdg : decode cc pc = .ok (.invokestatic zz, 3)) (hck : xmck own rf rl nest a zz n ts = true) (hi : xwat ts 1 (.static (xmy a)) = true)
    (hn : as'.length = n) (hM : xMet l Ls xs a as' σ q) (hT8 : xle 8 T = true) (hcc : q.2.1.length ≤ R.cells + n0 ∧ xsz q.2.1 ≤ R.slots + s0) (hsz : xle2 σ q.2)
    {ad : Nat → Nat} {H : Heap} {locs : List Loc} {ls : Array Slot} {cells slots : Nat} (hP : va_P D vwCl (xws ad cA σ) H) (hD : va_D (fun q : Nat => z ≤ q) (xws ad cA σ)) (hS : va_S (fun q : Nat => z ≤ q) s.heap H locs) (hls : ls.size = nL) (hso : xso σ) (hSo : ∀ v ∈ as'.reverse ++ T, xvo σ.1.length v) (hce : cells + n0 = σ.1.length) (hsl : slots + s0 = xsz σ.1) :
    va_Run p l e R s m args below meth c H locs cells slots (q.2.1.length - σ.1.length) (xsz q.2.1 - xsz σ.1) (F0 m pc ls ((as'.reverse ++ T).map (xv ad b))) (T.map (xv ad b)) (xQ D cA z σ.1.length ad q ((as'.map (xv ad b)).toArray)) (fun k => z ≤ k) := by
  obtain ⟨t, ht, ha, h1, h2, h3, h4⟩ := xmck_of hck
  have C' := C
  obtain ⟨hx, hb, hml, hown, hTb, hK, -⟩ := C
  have hvo : ∀ v ∈ as', xvo σ.1.length v := fun v hv => hSo v (by simp [hv])
  have hMM := hM t ht D cA b z ad hso hvo
  rw [xmy_of ht] at hi
  have hcat : (((T.map (xv ad b))).map fun v => v.category).sum ≤ 8 := xle_cat 8 T hT8
  have hpre : PreS s H (va_Pc (as'.map (xv ad b)) (xWd D cA b Ls xs z ad σ)) (as'.map (xv ad b)) :=
    ⟨xWd_blind, fun U hU hW => ⟨rfl, xWd_at (ad := ad) C' hP hD hS hU hW⟩⟩
  have hst : ((as'.reverse ++ T : List xV).map (xv ad b)) = (as'.map (xv ad b)).reverse ++ T.map (xv ad b) := by
    rw [List.map_append, List.map_reverse]
  have hcm : cells + (q.2.1.length - σ.1.length) ≤ R.cells ∧ slots + (xsz q.2.1 - xsz σ.1) ≤ R.slots := by
    have g1 := hsz.1
    have g2 := hsz.2
    omega
  by_cases hnest : nest = 0
  · subst hnest
    exact va_runS (Ts := xtl) (n := n) ⟨hx, hb, hml, hown, hTb.all args⟩ hMM ⟨xcallB C' hR hck ht, hTb _ (xwat_in hi) rfl args⟩ hpre rfl (by rw [List.length_map]; exact hn) hls hst (lv_room hcat) hdg hcm
  · exact va_runSN (Ts := xtl) (n := n) ⟨hx, hb, hml, hown, hTb.all args⟩ hMM ⟨xcallN C' hR hck hnest ht, hTb _ (xwat_in hi) rfl args, trivial⟩ hpre rfl (by rw [List.length_map]; exact hn) hls hst (lv_room hcat) hdg hcm
theorem run_I {p : Program} {l : Launch} {e : Env} {R : Room} {s : State} {m : MethodId} {args : Array Value} {below : List Frame} {meth : Method} {c : Code} {own : String} {cc : ByteArray} {nL : Nat} {D : va_G} {cA : ClassId} {b Ls : Nat} {xs : Nat → Int32} {z n0 s0 : Nat} {σ : xS} {pc a n zz nest h0 : Nat} {ts : List Nat} {rf rl : Nat} {as' T : List xV} {q : xR} (C : xC p s m c own cc nL D cA b Ls xs z) (hR : rf ≤ R.frames ∧ rl ≤ R.locals) (hdg : decode cc pc = .ok (.invokespecial zz, 3)) (hck : xmck own rf rl nest a zz n ts = true) (hi : xwat ts 1 (.instanceMethod (xmy a)) = true) (hin : (xmy a).name = "<init>") (hrt : (match xmt[a]? with | some t => decide (t.2.2.2.1 = none) | none => false) = true)
    (hn : as'.length = n) (hM : xMet l Ls xs a (.inr (.inr (.inl h0)) :: as') σ q) (hT8 : xle 8 T = true) (hcc : q.2.1.length ≤ R.cells + n0 ∧ xsz q.2.1 ≤ R.slots + s0) (hsz : xle2 σ q.2)
    {ad : Nat → Nat} {H : Heap} {locs : List Loc} {ls : Array Slot} {cells slots : Nat} (hP : va_P D vwCl (xws ad cA σ) H) (hD : va_D (fun q : Nat => z ≤ q) (xws ad cA σ)) (hS : va_S (fun q : Nat => z ≤ q) s.heap H locs) (hls : ls.size = nL) (hso : xso σ) (hSo : ∀ v ∈ as'.reverse ++ .inr (.inr (.inl h0)) :: T, xvo σ.1.length v) (hce : cells + n0 = σ.1.length) (hsl : slots + s0 = xsz σ.1) :
    va_Run p l e R s m args below meth c H locs cells slots (q.2.1.length - σ.1.length) (xsz q.2.1 - xsz σ.1) (F0 m pc ls ((as'.reverse ++ .inr (.inr (.inl h0)) :: T).map (xv ad b))) (T.map (xv ad b)) (xQ D cA z σ.1.length ad q ((Value.ref (ad h0) :: as'.map (xv ad b)).toArray)) (fun k => z ≤ k) := by
  obtain ⟨t, ht, ha, h1, h2, h3, h4⟩ := xmck_of hck
  have C' := C
  obtain ⟨hx, hb, hml, hown, hTb, hK, -⟩ := C
  have hvo : ∀ v ∈ (Sum.inr (Sum.inr (Sum.inl h0)) :: as' : List xV), xvo σ.1.length v := by
    intro v hv
    rcases List.mem_cons.mp hv with h | h
    · exact hSo v (by rw [h]; simp)
    · exact hSo v (by simp [h])
  have hMM := hM t ht D cA b z ad hso hvo
  rw [xmy_of ht] at hi hin
  rw [ht] at hrt
  have hrt2 : t.2.2.2.1 = none := of_decide_eq_true hrt
  have hcat : (((T.map (xv ad b))).map fun v => v.category).sum ≤ 8 := xle_cat 8 T hT8
  have hpre : PreS s H (va_Pc ((Sum.inr (Sum.inr (Sum.inl h0)) :: as' : List xV).map (xv ad b)) (xWd D cA b Ls xs z ad σ)) (.ref (ad h0) :: as'.map (xv ad b)) :=
    ⟨xWd_blind, fun U hU hW => ⟨rfl, xWd_at (ad := ad) C' hP hD hS hU hW⟩⟩
  have hst : ((as'.reverse ++ Sum.inr (Sum.inr (Sum.inl h0)) :: T : List xV).map (xv ad b)) = (as'.map (xv ad b)).reverse ++ Value.ref (ad h0) :: T.map (xv ad b) := by
    rw [List.map_append, List.map_reverse, List.map_cons]
    rfl
  have hcm : cells + (q.2.1.length - σ.1.length) ≤ R.cells ∧ slots + (xsz q.2.1 - xsz σ.1) ≤ R.slots := by
    have g1 := hsz.1
    have g2 := hsz.2
    omega
  by_cases hnest : nest = 0
  · subst hnest
    have hB := xcallB (σ := σ) (q := q) (args := args) C' hR hck ht
    rw [hrt2] at hMM hB
    exact va_runI (Ts := xtl) (n := n) ⟨hx, hb, hml, hown, hTb.all args⟩ hMM ⟨hB, hin, hTb _ (xwat_in hi) rfl args⟩ hpre rfl (by rw [List.length_map]; exact hn) hls hst (lv_room hcat) hdg hcm
  · have hB := xcallN (σ := σ) (q := q) (args := args) C' hR hck hnest ht
    rw [hrt2] at hMM hB
    exact va_runIN (Ts := xtl) (n := n) ⟨hx, hb, hml, hown, hTb.all args⟩ hMM ⟨hB, hin, hTb _ (xwat_in hi) rfl args⟩ hpre rfl (by rw [List.length_map]; exact hn) hls hst (lv_room hcat) hdg hcm

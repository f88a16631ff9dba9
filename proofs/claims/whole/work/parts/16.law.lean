/-! the law: what it owes, and how a run of the interpreter gives it (its first definitions are the skeleton's, a starting text) -/
def R_law : String := "MergeLineLaw"
def lw_P (b : Addr) (xs : List Int32) (args : Array Value) (s : State) : Prop := args = #[.ref b] ∧ s.IntsAt b xs ∧ xs.length ≤ 3585 ∧ (Jvm.Cond.and given_1 narrow_1).before args s = true
def lw_Q (_ : Array Value) (s : State) (o : Outcome) (t : State) : Prop := o = .returned (some (.int 1)) ∧ Framed s o t [] 600000 7302250
def lw_Z (below : List Frame) (a : Array Value) (s : State) : State → Prop := fun t => ∃ o, t.status = .running ∧ Ended t below o ∧ lw_Q a s o t
/-- the law's own end, with 1 on the stack, nothing written that was there before, its room as the claim has it -/
theorem lw_ret {p : Program} {l : Launch} {e : Env} {s : State} {m : MethodId} {below : List Frame} {meth : Method} {c : Code} {b : Nat} (hx : p.tables.exec = Jvm.exec) (hb : c.code = code) (hr : meth.sig.returnType = ret) (hlocks : meth.locks = false) {pc : Nat} {H : Heap} {ls : Array Slot} (hdg : decode code pc = .ok (.ireturn, 1)) : W p l e room_1 s m #[Value.ref b] below meth c H [] 600000 7302250 (lw_Z below #[Value.ref b] s) (F0 m pc ls [.int 1]) := by
  intro T hT X
  obtain ⟨fs, hret, hrun, hended, hW, hframe⟩ := X.leave (v := some (.int 1)) (hlocks := hlocks) (fun h => by rw [hr] at h; cases h)
  have hmeth' : T.vm.method? m = some meth := X.method'
  refine ⟨T.setFrames fs, ?_, .returned (some (.int 1)), hrun, hended, rfl, ⟨_, rfl⟩, hW, hframe⟩
  jvm_step X.here [X.here.top, hx, hb, hdg, hmeth', hr, ret, narrow_b1]
  (try refine ⟨rfl, ?_⟩); (try refine ⟨rfl, ?_⟩)
  first | (intro acts; rw [hret _ acts rfl rfl rfl]) | rw [hret _ _ rfl rfl rfl]
  exact Steps.refl _
/-- what holds at the law's entry: the machine, the code, the tables' words (any of lw_tbl by 'hts w (by decide +kernel)'), the script of L ints xs at the cell b, what the Statement gives of the start (any of its parts by flat_of_before) -/
def lw_At (p : Program) (s : State) (m : MethodId) (meth : Method) (c : Code) (b L : Nat) (xs : Nat → Int32) : Prop :=
  p.tables.exec = Jvm.exec ∧ c.code = code ∧ meth.sig.returnType = ret ∧ c.maxLocals = 4 ∧ s.vm.findClass R_law = some m.cls ∧ (∀ w ∈ lw_tbl, w.before #[Value.ref b] s = true) ∧ va_X b L xs s s.heap ∧ b < s.heap.size ∧ meth.locks = false ∧ (Jvm.Cond.and given_1 narrow_1).before #[Value.ref b] s = true

theorem xTb_of {s : State} {A : Array Value} (h : ∀ w ∈ lw_tbl, w.before A s = true) : xTb s := by
  intro w hw hg a
  rcases Bool.or_eq_true_iff.mp hg with h2 | h2
  · exact word_at (State.WarmedH.refl s) (good_of_word h2) (h w hw)
  · match w, h2 with
    | .fieldLinkNest c i r n d ho, _ => exact va_Nw.use rfl (va_Nw.of rfl (h _ hw))
    | .methodLinkNest c i x ho, _ => exact va_Nw.use rfl (va_Nw.of rfl (h _ hw))
theorem xK_of {s : State} (hT : xTb s) : ∃ (D : va_G) (cA : ClassId), va_K D vwCl [(cA, .int)] s := by
  have hk : ∀ k : Nat, ∃ (cC : ClassId) (iS : Nat → Nat), ∀ q : vw_C, vwCl[k]? = some q → u_Kn s q.1 q.2.1 q.2.2 cC iS := by
    intro k
    cases h : vwCl[k]? with
    | none => exact ⟨0, fun _ => 0, fun q hq => by cases hq⟩
    | some q =>
      obtain ⟨C0, TT, N⟩ := q
      have hg := xgood_of h
      obtain ⟨cC, iS, hu⟩ := u_known (C := C0) (T := TT) (N := N) (n := N) (hT.all #[]) hg.1 (hT _ (xw_new h).1 rfl #[])
      exact ⟨cC, iS, fun q hq => by cases hq; exact hu⟩
  obtain ⟨cA, kA, comp, h1, h2, h3⟩ := Cond.arrayClass_spec (type := .int) (show (Cond.arrayClass .int).before #[] s = true from hT _ xw_arr rfl #[])
  refine ⟨(fun k => Classical.choose (hk k), fun k => Classical.choose (Classical.choose_spec (hk k))), cA, fun k q hq => Classical.choose_spec (Classical.choose_spec (hk k)) q hq, fun k q hq => ?_⟩
  have hz : k < 1 := (List.getElem?_eq_some_iff.mp hq).1
  rw [show k = 0 by omega] at hq
  cases hq
  exact ⟨fun n z => ⟨fun k h => (by cases h), kA, h2, comp, h3⟩, h1⟩
/-- the law's end out of a run of the interpreter -/
theorem whole_of_xat {p : Program} {e : Env} {s : State} {m : MethodId} {below : List Frame} {meth : Method} {c : Code} (l : Launch) {b L : Nat} {xs : Nat → Int32} (hL : L ≤ 3585) (C0 : lw_At p s m meth c b L xs) {σ' : xS}
    (hx : xat (L, fun i => (xs i).toInt) xcd xnl xmkt 233 0 (xloc 4 [vS]) [] ([], fun _ _ => 0) = some (some (vI 1), σ')) (hcap : σ'.1.length ≤ 600000 ∧ xsz σ'.1 ≤ 7302250) :
    W p l e room_1 s m #[Value.ref b] below meth c s.heap [] 0 0 (lw_Z below #[Value.ref b] s) (entryFrame m ([Value.ref b] : List Value).toArray 4) := by
  obtain ⟨n, hn⟩ := xat_iff.mp hx
  obtain ⟨hx, hb, hr, hml, hown, hts, hX, hbl, hlocks, hgv⟩ := C0
  have hT := xTb_of hts
  obtain ⟨D, cA, hK⟩ := xK_of hT
  have ht : xmt[233]? = some (yL_law, cL_law, 4, some .boolean, 9, 215) := rfl
  have C : xC p s m c RL cL_law 4 D cA b L xs s.heap.size := ⟨hx, hb, hml, hown, hT, hK, hX, hbl, Nat.le_refl _, by omega⟩
  have hSnd := xsnd (l := l) (Ls := L) (xs := xs) (by omega) n
  have G := hSnd 233 0 _ [] _ _ hn _ ht p e room_1 s m #[Value.ref b] below meth c (lw_Z below #[Value.ref b] s) D cA b s.heap.size 0 0 (fun k => k) C (fun h => absurd h (by decide)) ⟨by decide, by decide⟩ ⟨hcap.1, hcap.2⟩ ?_ ?_
  · rw [xpb0] at G
    have E : entryFrame m ([Value.ref b] : List Value).toArray 4 = F0 m 0 ((lg_sl ([Value.ref b]) ++ List.replicate (4 - (lg_sl ([Value.ref b])).length) Slot.unset).toArray) [] := lg_entry_eq m [Value.ref b] 4
    rw [E]
    refine G (fun k => k) s.heap [] _ 0 0 (fun k q h => by simp [xws] at h) ⟨fun i j p q h => by simp [xws] at h, fun k q h => by simp [xws] at h⟩ va_S.rf (xlh_entry (ad := fun k => k) (b := b) (n := 4) (as := [vS]) (by decide)) ⟨fun k j => in32_0, fun k n h => by simp at h, fun k ci fs h => by simp at h⟩ ?_ (fun v hv => by cases hv) (fun k _ => rfl) (Nat.le_refl _) rfl rfl
    exact xloc_ok (fun v hv => by rw [List.mem_singleton.mp hv]; trivial)
  · intro x σ2 ad' H locs ls cells slots pc hq hdg hrt hx32 hP hD hS hso' had hn0 hce hsl
    cases hq
    refine va_forget (fun q hq => hS.2.2 q hq) ?_
    refine W.widen (k := 600000) (n := 7302250) (by omega) (by omega) ?_
    exact lw_ret hx hb hr hlocks hdg
  · intro σ2 ad' H locs ls cells slots pc hq
    cases hq

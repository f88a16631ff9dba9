/-! a run of the interpreter is a run of the machine: methods, and the law -/
theorem lv_args_mem {ad : Nat → Nat} {b : Nat} : ∀ (as : List xV) (k i : Nat) (v : xV), (xlo as)[i]? = some v → v ≠ vN → (k + i, xv ad b v) ∈ lv_args k (as.map (xv ad b)) := by
  intro as
  induction as with
  | nil => intro k i v h hv; cases h
  | cons u as ih =>
    intro k i v h hv
    have one : xcat u = 1 → (u :: xlo as)[i]? = some v → (k + i, xv ad b v) ∈ lv_args k ((u :: as).map (xv ad b)) := by
      intro hc h
      have hc2 : (xv ad b u).category = 1 := by rw [xv_cat]; exact hc
      show _ ∈ (k, xv ad b u) :: lv_args (if (xv ad b u).category = 2 then k + 2 else k + 1) (as.map (xv ad b))
      rw [if_neg (by rw [hc2]; decide)]
      cases i with
      | zero =>
        cases h
        exact List.mem_cons_self
      | succ i =>
        have := ih (k + 1) i v h hv
        rw [show k + 1 + i = k + (i + 1) by omega] at this
        exact List.mem_cons_of_mem _ this
    match u, h, one with
    | .inl x, h, one => exact one rfl h
    | .inr (.inr x), h, one => exact one rfl h
    | .inr (.inl x), h, one =>
      have h : (Sum.inr (Sum.inl x) :: vN :: xlo as)[i]? = some v := h
      show _ ∈ (k, xv ad b (Sum.inr (Sum.inl x))) :: lv_args (k + 2) (as.map (xv ad b))
      match i, h with
      | 0, h => cases h; exact List.mem_cons_self
      | 1, h => cases h; exact absurd rfl hv
      | i + 2, h =>
        have := ih (k + 2) i v h hv
        rw [show k + 2 + i = k + (i + 2) by omega] at this
        exact List.mem_cons_of_mem _ this
theorem xlo_len {ad : Nat → Nat} {b : Nat} (as : List xV) : (lg_sl (as.map (xv ad b))).length = (xlo as).length := by
  induction as with
  | nil => rfl
  | cons u as ih =>
    have e1 : lg_sl ((u :: as).map (xv ad b)) = (if (xv ad b u).category = 2 then [Slot.val (xv ad b u), .second] else [Slot.val (xv ad b u)]) ++ lg_sl (as.map (xv ad b)) := rfl
    rw [e1, List.length_append, ih]
    match u with
    | .inl x => show 1 + (xlo as).length = (xlo as).length + 1; omega
    | .inr (.inr (.inl x)) => show 1 + (xlo as).length = (xlo as).length + 1; omega
    | .inr (.inr (.inr true)) => show 1 + (xlo as).length = (xlo as).length + 1; omega
    | .inr (.inr (.inr false)) => show 1 + (xlo as).length = (xlo as).length + 1; omega
    | .inr (.inl x) => show 2 + (xlo as).length = (xlo as).length + 1 + 1; omega
theorem xlh_entry {ad : Nat → Nat} {b n : Nat} {as : List xV} (h : (xlo as).length ≤ n) : xlh ((lg_sl (as.map (xv ad b)) ++ List.replicate (n - (lg_sl (as.map (xv ad b))).length) Slot.unset).toArray) n ad b (xloc n as) := by
  have hl := lv_entry (as.map (xv ad b)) (n := n) (by rw [xlo_len]; exact h)
  refine ⟨hl.1, hl.2.1, fun i v hi hv => ?_⟩
  unfold xloc at hi
  by_cases hc : i < (xlo as).length
  · rw [List.getElem?_append_left hc] at hi
    have := lv_args_mem (ad := ad) (b := b) as 0 i v hi hv
    rw [Nat.zero_add] at this
    exact hl.2.2 _ this
  · rw [List.getElem?_append_right (by omega), List.getElem?_replicate] at hi
    split at hi
    · cases hi; exact absurd rfl hv
    · cases hi
theorem xlo_ok {n : Nat} {as : List xV} (h : ∀ v ∈ as, xvo n v) : ∀ v ∈ xlo as, xvo n v := by
  intro v hv
  obtain ⟨u, hu, hv⟩ := List.mem_flatMap.mp hv
  match u, hv with
  | .inl x, hv => rw [List.mem_singleton.mp hv]; exact h _ hu
  | .inr (.inr x), hv => rw [List.mem_singleton.mp hv]; exact h _ hu
  | .inr (.inl x), hv =>
    rcases List.mem_cons.mp hv with e | e
    · rw [e]; exact h _ hu
    · rw [List.mem_singleton.mp e]; trivial
theorem xloc_ok {n k : Nat} {as : List xV} (h : ∀ v ∈ as, xvo n v) : ∀ v ∈ xloc k as, xvo n v := by
  intro v hv
  rcases List.mem_append.mp hv with e | e
  · exact xlo_ok h v e
  · rw [(List.mem_replicate.mp e).2]; trivial
theorem xpb0_all : (List.range 234).all (fun a => xpb a 0 == 0) = true := by decide +kernel
theorem xpb0 (a : Nat) : xpb a 0 = 0 := by
  by_cases h : a < 234
  · exact beq_iff_eq.mp (List.all_eq_true.mp xpb0_all a (List.mem_range.mpr h))
  · have e : xprog[a]? = none := List.getElem?_eq_none (by rw [show xprog.length = 234 from rfl]; omega)
    unfold xpb xcd
    rw [e]
    rfl
theorem xnl_of {a : Nat} {t : xT} (ht : xmt[a]? = some t) : xnl a = t.2.2.1 := by unfold xnl; rw [ht]
theorem xmk_get : ∀ (m : List Bool) (L : List xV) (i : Nat) (v : xV), (xmk m L)[i]? = some v → v ≠ vN → L[i]? = some v := by
  intro m
  induction m with
  | nil => intro L i v h hv; cases L <;> cases h
  | cons x m ih =>
    intro L i v h hv
    cases L with
    | nil => cases x <;> cases h
    | cons u L =>
      cases x with
      | true =>
        cases i with
        | zero => exact h
        | succ i => exact ih L i v h hv
      | false =>
        cases i with
        | zero => exact absurd (Option.some.inj h).symm hv
        | succ i => exact ih L i v h hv
theorem xlh.mask {ls : Array Slot} {nL : Nat} {ad : Nat → Nat} {b : Nat} {L : List xV} {m : List Bool} (h : xlh ls nL ad b L) : xlh ls nL ad b (xmk m L) := ⟨h.1, h.2.1, fun i v hi hv => h.2.2 i v (xmk_get m L i v hi hv) hv⟩
theorem xmk_ok {n : Nat} {L : List xV} {m : List Bool} (h : ∀ v ∈ L, xvo n v) : ∀ v ∈ xmk m L, xvo n v := by
  intro v hv
  by_cases e : v = vN
  · rw [e]; trivial
  · obtain ⟨i, hi⟩ := List.getElem?_of_mem hv
    exact h v (List.mem_of_getElem? (xmk_get m L i v hi e))
def xSnd (l : Launch) (Ls : Nat) (xs : Nat → Int32) (n : Nat) : Prop := ∀ (mi b : Nat) (L S : List xV) (σ : xS) (r : xR), xrun (Ls, fun i => (xs i).toInt) xcd xnl xmkt n mi b L S σ = some r → ∀ (t : xT), xmt[mi]? = some t →
  ∀ (p : Program) (e : Env) (R : Room) (s : State) (m : MethodId) (args : Array Value) (below : List Frame) (meth : Method) (c : Code) (Q : State → Prop) (D : va_G) (cA : ClassId) (b0 z n0 s0 : Nat) (ad0 : Nat → Nat), xC p s m c t.1.cls t.2.1 t.2.2.1 D cA b0 Ls xs z → (t.1.name = "<init>" → meth.name = "<init>") → (t.2.2.2.2.1 ≤ R.frames ∧ t.2.2.2.2.2 ≤ R.locals) → (r.2.1.length ≤ R.cells + n0 ∧ xsz r.2.1 ≤ R.slots + s0) →
  xRetI p l e R s m args below meth c Q t.2.1 t.2.2.2.1 D cA z n0 s0 ad0 r → xRetV p l e R s m args below meth c Q t.2.1 t.2.2.2.1 D cA z n0 s0 ad0 r → xGo p l e R s m args below meth c Q t.2.2.1 D cA b0 z n0 s0 ad0 (xpb mi b) L S σ
theorem xmet_of {l : Launch} {Ls : Nat} {xs : Nat → Int32} {n : Nat} (hLs : Ls ≤ 100000) (ih : xSnd l Ls xs n) {a : Nat} {as : List xV} {σ : xS} {q : xR} (hfit : (xlo as).length ≤ xnl a) (hr : xrun (Ls, fun i => (xs i).toInt) xcd xnl xmkt n a 0 (xloc (xnl a) as) [] σ = some q) : xMet l Ls xs a as σ q := by
  intro t ht D cA b z ad hso hvo
  have hszq := xrun_sz _ _ _ _ _ _ _ hr
  rw [xnl_of ht] at hfit hr
  have hpb : xpb a 0 = 0 := xpb0 a
  refine Met.ofW (cc := t.2.1) (maxL := t.2.2.1) (ret := t.2.2.2.1) (xfact ht).1 rfl ?_
  intro p e s m args below meth c s₁ B hml hv
  obtain ⟨rfl, hP, hK, hD, hX, hbz, hzs, hT⟩ := hv
  have hlocks := B.notSynchronized
  have C : xC p s m c t.1.cls t.2.1 t.2.2.1 D cA b Ls xs z := ⟨B.exec, B.bytes, hml, findClass_of_methodNamed B.named, hT, hK, hX, hbz, hzs, hLs⟩
  have hn := (name_of_methodNamed B.named B.method).1
  have G := ih a 0 _ [] σ q hr t ht p e (headSpec [Jvm.Cond.code t.1 t.2.1 t.2.2.1 t.2.2.2.1] (xrm t σ q)).room s m ((as.map (xv ad b)).toArray) below meth c (MQ below (xQ D cA z σ.1.length ad q) ((as.map (xv ad b)).toArray) s (q.2.1.length - σ.1.length) (xsz q.2.1 - xsz σ.1) (fun k => z ≤ k)) D cA b z σ.1.length (xsz σ.1) ad C (fun h => hn.trans h) ⟨Nat.le_refl _, Nat.le_refl _⟩ ⟨by show _ ≤ (q.2.1.length - σ.1.length) + _; omega, by show _ ≤ (xsz q.2.1 - xsz σ.1) + _; omega⟩ ?_ ?_
  · rw [hpb] at G
    rw [lg_entry_eq]
    exact G ad s.heap [] _ 0 0 hP hD va_S.rf (xlh_entry hfit) hso (xloc_ok hvo) (fun v hv => by cases hv) (fun k _ => rfl) (Nat.le_refl _) (by omega) (by omega)
  · intro x σ' ad' H locs ls cells slots pc hq hdg hrt hx32 hP hD hS hso' had hn0 hce hsl
    subst hq
    have e1 : σ'.1.length - σ.1.length = cells := by omega
    have e2 : xsz σ'.1 - xsz σ.1 = slots := by omega
    rw [e1, e2]
    have post : ∀ t' : State, t'.heap = H → s.WarmedH t'.vm → xQ D cA z σ.1.length ad (some (.inl x), σ') ((as.map (xv ad b)).toArray) s (.returned (some (.int (Int32.ofInt x)))) t' :=
      fun t' ht' hW => ⟨⟨Int32.ofInt x, ad', rfl, ⟨⟨rfl, hx32⟩, had⟩, by rw [ht']; exact hP, hD, hso'⟩, hS.F ht'⟩
    rcases hrt with ⟨h1, h2⟩ | h1
    · refine W.zret (ty := .boolean) B.exec B.bytes (B.returns.trans h1) ?_ post hS.2.2 hdg hlocks
      rcases h2 with rfl | rfl <;> decide +kernel
    · exact W.iret B.exec B.bytes (B.returns.trans h1) post hS.2.2 hdg hlocks
  · intro σ' ad' H locs ls cells slots pc hq hdg hrt hP hD hS hso' had hn0 hce hsl
    subst hq
    have e1 : σ'.1.length - σ.1.length = cells := by omega
    have e2 : xsz σ'.1 - xsz σ.1 = slots := by omega
    rw [e1, e2]
    exact W.vret B.exec B.bytes (B.returns.trans hrt) (fun t' ht' hW => ⟨⟨ad', rfl, had, by rw [ht']; exact hP, hD, hso'⟩, hS.F ht'⟩) hS.2.2 hdg hlocks
theorem xsnd {l : Launch} {Ls : Nat} {xs : Nat → Int32} (hLs : Ls ≤ 100000) : ∀ n, xSnd l Ls xs n := by
  intro n
  induction n with
  | zero => intro mi b L S σ r h; cases h
  | succ n ih =>
    intro mi b L S σ r h t ht p e R s m args below meth c Q D cA b0 z n0 s0 ad0 C hini hR hcap hrI hrV
    unfold xrun at h
    exact xblk_go C (fun h => hini (of_decide_eq_true h)) hR (fun b' L' S' σ' g ad H locs ls cells slots hP hD hS hl hso hL hSo had hn hce hsl => ih mi b' _ S' σ' r g t ht p e R s m args below meth c Q D cA b0 z n0 s0 ad0 C hini hR hcap hrI hrV ad H locs ls cells slots hP hD hS hl.mask hso (xmk_ok hL) hSo had hn hce hsl) (fun b' L' S' σ' g => xrun_sz _ _ _ _ _ _ _ g) (fun a as σ q g => xrun_sz _ _ _ _ _ _ _ (xen_of g).2) (fun a as σ q ha g => xmet_of hLs ih (xen_of g).1 (xen_of g).2) hcap hrI hrV _ _ (xchk_at ht b) L S σ h

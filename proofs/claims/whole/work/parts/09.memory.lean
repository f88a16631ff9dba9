/-! operations on the store -/
theorem xso_up {σ : xS} {k i : Nat} {v : Int} (h : xso σ) (hv : in32 v) : xso (σ.1, up2 σ.2 k i v) := by
  refine ⟨fun k' j => ?_, h.2⟩
  show in32 (up2 σ.2 k i v k' j)
  unfold up2
  split
  · exact hv
  · exact h.1 _ _
theorem up_off {μ : xM} {k i : Nat} {v : Int} : ∀ k', k' ≠ k → up2 μ k i v k' = μ k' := by
  intro k' h
  funext j
  unfold up2
  rw [if_neg (fun e => h e.1)]
theorem go_alen {p : Program} {l : Launch} {e : Env} {R : Room} {s : State} {m : MethodId} {args : Array Value} {below : List Frame} {meth : Method} {c : Code} {Q : State → Prop} {own : String} {cc : ByteArray} {nL : Nat} {D : va_G} {cA : ClassId} {b Ls : Nat} {xs : Nat → Int32} {z n0 s0 : Nat} {ad0 : Nat → Nat} {σ : xS} {L : List xV} {pc r n : Nat} {T : List xV} (C : xC p s m c own cc nL D cA b Ls xs z) (hdg : decode cc pc = .ok (.arraylength, 1)) (h0 : σ.1[r]? = some (Sum.inl n)) (k : xGo p l e R s m args below meth c Q nL D cA b z n0 s0 ad0 (pc + 1) L (.inl (n : Int) :: T) σ) : xGo p l e R s m args below meth c Q nL D cA b z n0 s0 ad0 pc L (.inr (.inr (.inl r)) :: T) σ := by
  obtain ⟨hx, hb, -, -, -, hK, -⟩ := C
  intro ad H locs ls cells slots hP hD hS hl hso hL hSo had hn hce hsl
  simp only [xall_cons] at hSo
  have hN : n ≤ 100000 := hso.2.1 _ _ h0
  refine va_alen hx hb hK hP r 0 (xws_at h0) rfl (v := Int32.ofInt (n : Int)) rfl hdg ?_
  refine k ad H locs ls cells slots hP hD hS hl hso hL ?_ had hn hce hsl
  simp only [xall_cons]
  refine ⟨?_, hSo.2⟩
  show in32 _
  unfold in32
  omega
theorem go_slen {p : Program} {l : Launch} {e : Env} {R : Room} {s : State} {m : MethodId} {args : Array Value} {below : List Frame} {meth : Method} {c : Code} {Q : State → Prop} {own : String} {cc : ByteArray} {nL : Nat} {D : va_G} {cA : ClassId} {b Ls : Nat} {xs : Nat → Int32} {z n0 s0 : Nat} {ad0 : Nat → Nat} {σ : xS} {L : List xV} {pc : Nat} {T : List xV} (C : xC p s m c own cc nL D cA b Ls xs z) (hdg : decode cc pc = .ok (.arraylength, 1)) (k : xGo p l e R s m args below meth c Q nL D cA b z n0 s0 ad0 (pc + 1) L (.inl (Ls : Int) :: T) σ) : xGo p l e R s m args below meth c Q nL D cA b z n0 s0 ad0 pc L (vS :: T) σ := by
  obtain ⟨hx, hb, -, -, -, hK, hX, hbz, hzs, hLs⟩ := C
  intro ad H locs ls cells slots hP hD hS hl hso hL hSo had hn hce hsl
  simp only [xall_cons] at hSo
  refine va_slen (A := fun q : Nat => z ≤ q) hx hb hX (by omega) (by omega) hS hdg ?_
  refine k ad H locs ls cells slots hP hD hS hl hso hL ?_ had hn hce hsl
  simp only [xall_cons]
  refine ⟨?_, hSo.2⟩
  show in32 _
  unfold in32
  omega
theorem go_iald {p : Program} {l : Launch} {e : Env} {R : Room} {s : State} {m : MethodId} {args : Array Value} {below : List Frame} {meth : Method} {c : Code} {Q : State → Prop} {own : String} {cc : ByteArray} {nL : Nat} {D : va_G} {cA : ClassId} {b Ls : Nat} {xs : Nat → Int32} {z n0 s0 : Nat} {ad0 : Nat → Nat} {σ : xS} {L : List xV} {pc r n : Nat} {i : Int} {T : List xV} (C : xC p s m c own cc nL D cA b Ls xs z) (hdg : decode cc pc = .ok (.iaload, 1)) (h0 : σ.1[r]? = some (Sum.inl n)) (hi : 0 ≤ i ∧ i < n) (k : xGo p l e R s m args below meth c Q nL D cA b z n0 s0 ad0 (pc + 1) L (.inl (σ.2 r i.toNat) :: T) σ) : xGo p l e R s m args below meth c Q nL D cA b z n0 s0 ad0 pc L (.inl i :: .inr (.inr (.inl r)) :: T) σ := by
  obtain ⟨hx, hb, -, -, -, hK, -⟩ := C
  intro ad H locs ls cells slots hP hD hS hl hso hL hSo had hn hce hsl
  simp only [xall_cons] at hSo
  obtain ⟨q1, q2⟩ := vp_inI hSo.1 hi.1 hi.2
  refine va_iald hx hb hK hP r 0 (xws_at h0) rfl q1 hdg ?_
  rw [q2]
  refine k ad H locs ls cells slots hP hD hS hl hso hL ?_ had hn hce hsl
  simp only [xall_cons]
  exact ⟨hso.1 _ _, hSo.2.2⟩
theorem go_sald {p : Program} {l : Launch} {e : Env} {R : Room} {s : State} {m : MethodId} {args : Array Value} {below : List Frame} {meth : Method} {c : Code} {Q : State → Prop} {own : String} {cc : ByteArray} {nL : Nat} {D : va_G} {cA : ClassId} {b Ls : Nat} {xs : Nat → Int32} {z n0 s0 : Nat} {ad0 : Nat → Nat} {σ : xS} {L : List xV} {pc : Nat} {i : Int} {T : List xV} (C : xC p s m c own cc nL D cA b Ls xs z) (hdg : decode cc pc = .ok (.iaload, 1)) (hi : 0 ≤ i ∧ i < Ls) (k : xGo p l e R s m args below meth c Q nL D cA b z n0 s0 ad0 (pc + 1) L (.inl (xs i.toNat).toInt :: T) σ) : xGo p l e R s m args below meth c Q nL D cA b z n0 s0 ad0 pc L (.inl i :: vS :: T) σ := by
  obtain ⟨hx, hb, -, -, -, hK, hX, hbz, hzs, hLs⟩ := C
  intro ad H locs ls cells slots hP hD hS hl hso hL hSo had hn hce hsl
  simp only [xall_cons] at hSo
  obtain ⟨q1, q2⟩ := vp_inI hSo.1 hi.1 hi.2
  refine va_sld (A := fun q : Nat => z ≤ q) hx hb hX (by omega) (by omega) hS q1 hdg ?_
  have h := k ad H locs ls cells slots hP hD hS hl hso hL (by simp only [xall_cons]; exact ⟨ti_in _, hSo.2.2⟩) had hn hce hsl
  rw [q2, ← i_of (xs i.toNat)]
  exact h
theorem go_iast {p : Program} {l : Launch} {e : Env} {R : Room} {s : State} {m : MethodId} {args : Array Value} {below : List Frame} {meth : Method} {c : Code} {Q : State → Prop} {own : String} {cc : ByteArray} {nL : Nat} {D : va_G} {cA : ClassId} {b Ls : Nat} {xs : Nat → Int32} {z n0 s0 : Nat} {ad0 : Nat → Nat} {σ : xS} {L : List xV} {pc r n : Nat} {i x : Int} {T : List xV} (C : xC p s m c own cc nL D cA b Ls xs z) (hdg : decode cc pc = .ok (.iastore, 1)) (h0 : σ.1[r]? = some (Sum.inl n)) (hi : 0 ≤ i ∧ i < n) (k : xGo p l e R s m args below meth c Q nL D cA b z n0 s0 ad0 (pc + 1) L T (σ.1, up2 σ.2 r i.toNat x)) : xGo p l e R s m args below meth c Q nL D cA b z n0 s0 ad0 pc L (.inl x :: .inl i :: .inr (.inr (.inl r)) :: T) σ := by
  obtain ⟨hx, hb, -, -, -, hK, -⟩ := C
  intro ad H locs ls cells slots hP hD hS hl hso hL hSo had hn hce hsl
  simp only [xall_cons] at hSo
  obtain ⟨q1, q2⟩ := vp_inI hSo.2.1 hi.1 hi.2
  refine va_iast hx hb hK hP hD hS r 0 (xws_at h0) rfl q1 hdg fun H1 locs1 hP hD hS => ?_
  have e : (Sum.inl (cA, n, Sum.inl (upd (fun j => Int32.ofInt (σ.2 r j)) (Int32.ofInt i).toNatClampNeg (Int32.ofInt x))) : va_E) = xce ad cA (up2 σ.2 r i.toNat x r) (Sum.inl n) := by
    show _ = (Sum.inl (cA, n, Sum.inl fun j => Int32.ofInt (up2 σ.2 r i.toNat x r j)) : va_E)
    congr 4
    funext j
    unfold upd up2
    rw [q2]
    by_cases hj : j = i.toNat
    · rw [if_pos hj, if_pos ⟨rfl, hj⟩]
    · rw [if_neg hj, if_neg (fun h => hj h.2)]
  rw [e, xws_same h0 up_off] at hP hD
  exact k ad H1 locs1 ls cells slots hP hD hS hl (xso_up hso hSo.1) hL hSo.2.2.2 had hn hce hsl
theorem xfck_of {own : String} {w ci k zz : Nat} {ts : List Nat} (h : xfck own w ci k zz ts = true) : ∃ q : vw_C, vwCl[ci]? = some q ∧ k < q.2.2 ∧ (q.2.1 k).1 = q.1 ∧ (if w = 0 then Jvm.Cond.fieldLink own zz q.1 (q.2.1 k).2.1 (q.2.1 k).2.2.1 else Jvm.Cond.fieldLinkNest own zz q.1 (q.2.1 k).2.1 (q.2.1 k).2.2.1 "MergeLine") ∈ lw_tbl := by
  unfold xfck at h
  split at h
  · rename_i q hq
    simp only [Bool.and_eq_true, decide_eq_true_eq] at h
    exact ⟨q, hq, h.1.1, h.1.2, xwat_in h.2⟩
  · cases h
theorem go_getf {p : Program} {l : Launch} {e : Env} {R : Room} {s : State} {m : MethodId} {args : Array Value} {below : List Frame} {meth : Method} {c : Code} {Q : State → Prop} {own : String} {cc : ByteArray} {nL : Nat} {D : va_G} {cA : ClassId} {b Ls : Nat} {xs : Nat → Int32} {z n0 s0 : Nat} {ad0 : Nat → Nat} {σ : xS} {L : List xV} {pc r ci fk zz w : Nat} {ks : List (Option (Option Nat))} {o : Option (Option Nat)} {v : xV} {T : List xV} {ts : List Nat} (C : xC p s m c own cc nL D cA b Ls xs z) (hdg : decode cc pc = .ok (.getfield zz, 3)) (hck : xfck own w ci fk zz ts = true) (h0 : σ.1[r]? = some (Sum.inr (ci, ks))) (hk : ks[fk]? = some o)
    (hv : ∀ ad : Nat → Nat, xfv ad (σ.2 r) fk o = xv ad b v) (hvo : xso σ → xvo σ.1.length v) (k : xGo p l e R s m args below meth c Q nL D cA b z n0 s0 ad0 (pc + 3) L (v :: T) σ) : xGo p l e R s m args below meth c Q nL D cA b z n0 s0 ad0 pc L (.inr (.inr (.inl r)) :: T) σ := by
  obtain ⟨hx, hb, -, hown, hT, hK, -⟩ := C
  intro ad H locs ls cells slots hP hD hS hl hso hL hSo had hn hce hsl
  simp only [xall_cons] at hSo
  obtain ⟨q, hq, hlt, hdc, hw⟩ := xfck_of hck
  have hg := xgood_of hq
  have hk2 := k ad H locs ls cells slots hP hD hS hl hso hL (by simp only [xall_cons]; exact ⟨hvo hso, hSo.2⟩) had hn hce hsl
  have hfs : (ks.mapIdx (xfv ad (σ.2 r)))[fk]? = some (xv ad b v) := by
    rw [List.getElem?_mapIdx, hk, ← hv ad]
    rfl
  have hts := hT.all args
  obtain ⟨C0, TT, N⟩ := q
  by_cases hw0 : w = 0
  · rw [if_pos hw0] at hw
    exact va_get hx hb hts hg.1 hown hK hP r (xws_at h0) hq fk hlt (hT _ hw rfl args) (fun x hx9 => by rw [show (TT fk).1 = C0 from hdc] at hx9; exact hx9) hfs hdg hk2
  · rw [if_neg hw0] at hw
    exact va_getN hx hb hts hg.1 hown hK hP r (xws_at h0) hq fk hlt (hT _ hw rfl args) (fun x hx9 => by rw [show (TT fk).1 = C0 from hdc] at hx9; exact hx9) hfs hdg hk2
theorem xfs_set {ad : Nat → Nat} {ks : List (Option (Option Nat))} {f g : Nat → Int} {k : Nat} {o : Option (Option Nat)} (hk : k < ks.length) (hf : ∀ j, j ≠ k → g j = f j) : (ks.mapIdx (xfv ad f)).set k (xfv ad g k o) = (ks.set k o).mapIdx (xfv ad g) := by
  apply List.ext_getElem?
  intro i
  rw [List.getElem?_set, List.getElem?_mapIdx, List.getElem?_mapIdx, List.getElem?_set]
  by_cases e : k = i
  · subst e
    simp [hk]
  · simp only [if_neg e]
    cases ks[i]? with
    | none => rfl
    | some o2 =>
      simp only [Option.map_some]
      match o2 with
      | none => show some (Value.int (Int32.ofInt (f i))) = some (Value.int (Int32.ofInt (g i))); rw [hf i (Ne.symm e)]
      | some none => rfl
      | some (some r) => rfl
theorem xsz_set {l : List xK} {k : Nat} {q q' : xK} (h : l[k]? = some q) (hq : xks q' = xks q) : xsz (l.set k q') = xsz l := by
  unfold xsz
  congr 1
  apply List.ext_getElem?
  intro i
  rw [List.getElem?_map, List.getElem?_map, List.getElem?_set]
  by_cases e : k = i
  · subst e
    have hl := (List.getElem?_eq_some_iff.mp h).1
    simp [hl, h, hq]
    rw [(List.getElem?_eq_some_iff.mp h).2]
  · simp only [if_neg e]
theorem go_putI {p : Program} {l : Launch} {e : Env} {R : Room} {s : State} {m : MethodId} {args : Array Value} {below : List Frame} {meth : Method} {c : Code} {Q : State → Prop} {own : String} {cc : ByteArray} {nL : Nat} {D : va_G} {cA : ClassId} {b Ls : Nat} {xs : Nat → Int32} {z n0 s0 : Nat} {ad0 : Nat → Nat} {σ : xS} {L : List xV} {pc r ci fk zz w : Nat} {ks : List (Option (Option Nat))} {x : Int} {T : List xV} {ts : List Nat} (C : xC p s m c own cc nL D cA b Ls xs z) (hdg : decode cc pc = .ok (.putfield zz, 3)) (hck : xfck own 0 ci fk zz ts = true) (hfin : xfin ci fk = false) (hw : (w = 0 ∧ xty ci fk = .int) ∨ (w = 1 ∧ xty ci fk = .boolean)) (h0 : σ.1[r]? = some (Sum.inr (ci, ks))) (hk : ks[fk]? = some none) (hz : w = 1 → x = 0 ∨ x = 1) (k : xGo p l e R s m args below meth c Q nL D cA b z n0 s0 ad0 (pc + 3) L T (σ.1, up2 σ.2 r fk x)) : xGo p l e R s m args below meth c Q nL D cA b z n0 s0 ad0 pc L (.inl x :: .inr (.inr (.inl r)) :: T) σ := by
  obtain ⟨hx, hb, -, hown, hT, hK, -⟩ := C
  intro ad H locs ls cells slots hP hD hS hl hso hL hSo had hn hce hsl
  simp only [xall_cons] at hSo
  obtain ⟨q, hq, hlt, hdc, hwd⟩ := xfck_of hck
  rw [if_pos rfl] at hwd
  have hg := xgood_of hq
  have hts := hT.all args
  have hkl := (List.getElem?_eq_some_iff.mp hk).1
  obtain ⟨C0, TT, N⟩ := q
  have hfin2 : (TT fk).2.2.2 = false := by
    unfold xfin at hfin
    rw [hq] at hfin
    exact hfin
  have hnf : narrow (xty ci fk) (.int (Int32.ofInt x)) = .int (Int32.ofInt x) ∧ fits (xty ci fk) (.int (Int32.ofInt x)) = true := by
    rcases hw with ⟨hw0, e⟩ | ⟨hw1, e⟩
    · rw [e]; exact ⟨rfl, rfl⟩
    · rw [e]
      rcases hz hw1 with e2 | e2 <;> rw [e2] <;> exact ⟨by decide +kernel, by decide +kernel⟩
  refine va_put hx hb hts hg.1 (xty ci) hg.2.1 hg.2.2.1 hown hK hP hD hS r (xws_at h0) hq fk hlt (hT _ hwd rfl args) (fun y hx9 => by rw [show (TT fk).1 = C0 from hdc] at hx9; exact hx9) hfin2 (hg.2.1 fk hlt) (v := .int (Int32.ofInt x)) hnf.1 hnf.2 (by simpa using hkl) hdg fun H1 locs1 hP hD hS => ?_
  have e : (Sum.inr (ci, (ks.mapIdx (xfv ad (σ.2 r))).set fk (Value.int (Int32.ofInt x))) : va_E) = xce ad cA (up2 σ.2 r fk x r) (Sum.inr (ci, ks)) := by
    show _ = (Sum.inr (ci, ks.mapIdx (xfv ad (up2 σ.2 r fk x r))) : va_E)
    have h1 := xfs_set (ad := ad) (f := σ.2 r) (g := up2 σ.2 r fk x r) (o := none) hkl (fun j hj => by unfold up2; rw [if_neg (fun h => hj h.2)])
    rw [set_same hk] at h1
    rw [← h1]
    congr 3
    show Value.int (Int32.ofInt x) = Value.int (Int32.ofInt (up2 σ.2 r fk x r fk))
    unfold up2
    rw [if_pos ⟨rfl, rfl⟩]
  rw [e, xws_same h0 up_off] at hP hD
  exact k ad H1 locs1 ls cells slots hP hD hS hl (xso_up hso hSo.1) hL hSo.2.2 had hn hce hsl
theorem go_putR {p : Program} {l : Launch} {e : Env} {R : Room} {s : State} {m : MethodId} {args : Array Value} {below : List Frame} {meth : Method} {c : Code} {Q : State → Prop} {own : String} {cc : ByteArray} {nL : Nat} {D : va_G} {cA : ClassId} {b Ls : Nat} {xs : Nat → Int32} {z n0 s0 : Nat} {ad0 : Nat → Nat} {σ : xS} {L : List xV} {pc r r2 ci fk zz : Nat} {ks : List (Option (Option Nat))} {o : Option Nat} {T : List xV} {ts : List Nat} (C : xC p s m c own cc nL D cA b Ls xs z) (hini : meth.name = "<init>") (hdg : decode cc pc = .ok (.putfield zz, 3)) (hck : xfck own 0 ci fk zz ts = true) (hfin : xfin ci fk = true) (hrf : xrf (xty ci fk) = true) (how : xfow ci fk = own) (h0 : σ.1[r]? = some (Sum.inr (ci, ks))) (hk : ks[fk]? = some (some o)) (k : xGo p l e R s m args below meth c Q nL D cA b z n0 s0 ad0 (pc + 3) L T (σ.1.set r (Sum.inr (ci, ks.set fk (some (some r2)))), σ.2)) : xGo p l e R s m args below meth c Q nL D cA b z n0 s0 ad0 pc L (.inr (.inr (.inl r2)) :: .inr (.inr (.inl r)) :: T) σ := by
  obtain ⟨hx, hb, -, hown, hT, hK, -⟩ := C
  intro ad H locs ls cells slots hP hD hS hl hso hL hSo had hn hce hsl
  simp only [xall_cons] at hSo
  obtain ⟨q, hq, hlt, hdc, hwd⟩ := xfck_of hck
  rw [if_pos rfl] at hwd
  have hg := xgood_of hq
  have hts := hT.all args
  have hkl := (List.getElem?_eq_some_iff.mp hk).1
  obtain ⟨C0, TT, N⟩ := q
  have hfin2 : (TT fk).2.2.2 = true := by
    unfold xfin at hfin
    rw [hq] at hfin
    exact hfin
  have how2 : (TT fk).1 = own := by
    unfold xfow at how
    rw [hq] at how
    exact how
  have hnf : narrow (xty ci fk) (.ref (ad r2)) = .ref (ad r2) ∧ fits (xty ci fk) (.ref (ad r2)) = true := by
    cases hty : xty ci fk <;> rw [hty] at hrf <;> first | (exact ⟨rfl, rfl⟩) | (exact absurd hrf (by decide))
  refine va_putF hx hb hts hg.1 (xty ci) hg.2.1 hg.2.2.1 hown hK hP hD hS r (xws_at h0) hq fk hlt (hT _ hwd rfl args) (fun y hx9 => by rw [show (TT fk).1 = C0 from hdc] at hx9; exact hx9) hfin2 hini how2 (hg.2.1 fk hlt) (v := .ref (ad r2)) hnf.1 hnf.2 (by simpa using hkl) hdg fun H1 locs1 hP hD hS => ?_
  have e : (Sum.inr (ci, (ks.mapIdx (xfv ad (σ.2 r))).set fk (Value.ref (ad r2))) : va_E) = xce ad cA (σ.2 r) (Sum.inr (ci, ks.set fk (some (some r2)))) := by
    show _ = (Sum.inr (ci, (ks.set fk (some (some r2))).mapIdx (xfv ad (σ.2 r))) : va_E)
    rw [← xfs_set (ad := ad) (f := σ.2 r) (o := some (some r2)) hkl (fun j hj => rfl)]
    rfl
  rw [e, xws_upd h0 (fun _ _ => rfl)] at hP hD
  have hlen : (σ.1.set r (Sum.inr (ci, ks.set fk (some (some r2))))).length = σ.1.length := by simp
  refine k ad H1 locs1 ls cells slots hP hD hS hl ⟨hso.1, fun k' n h => ?_, fun k' ci' fs h r' hr' => ?_⟩ (by rw [hlen]; exact hL) (by rw [hlen]; exact hSo.2.2) had (by rw [hlen]; exact hn) (by rw [hlen]; exact hce) (by rw [hsl, xsz_set h0]; simp [xks])
  · rw [List.getElem?_set] at h
    split at h
    · split at h <;> cases h
    · exact hso.2.1 _ _ h
  · show r' < (σ.1.set r (Sum.inr (ci, ks.set fk (some (some r2))))).length
    rw [hlen]
    rw [List.getElem?_set] at h
    split at h
    · split at h
      · cases h
        rcases List.mem_or_eq_of_mem_set hr' with h1 | h1
        · exact hso.2.2 _ _ _ h0 _ h1
        · cases h1
          exact hSo.1
      · cases h
    · exact hso.2.2 _ _ _ h _ hr'
theorem xso_new {σ : xS} {q : xK} (h : xso σ) (hn : ∀ n : Nat, q = .inl n → n ≤ 100000) (hq : ∀ ci fs, q = .inr (ci, fs) → ∀ r : Nat, ¬ some (some r) ∈ fs) : xso (σ.1 ++ [q], zr2 σ.2 σ.1.length) := by
  refine ⟨fun k j => ?_, fun k n hk => ?_, fun k ci fs hk r hr => ?_⟩
  · show in32 (zr2 σ.2 σ.1.length k j)
    unfold zr2
    split
    · exact in32_0
    · exact h.1 _ _
  · have hk : (σ.1 ++ [q])[k]? = some (Sum.inl n) := hk
    by_cases hl : k < σ.1.length
    · rw [List.getElem?_append_left hl] at hk
      exact h.2.1 _ _ hk
    · rw [List.getElem?_append_right (by omega)] at hk
      have hz : k - σ.1.length < 1 := (List.getElem?_eq_some_iff.mp hk).1
      rw [show k - σ.1.length = 0 by omega] at hk
      exact hn n (Option.some.inj hk)
  · have hk : (σ.1 ++ [q])[k]? = some (Sum.inr (ci, fs)) := hk
    by_cases hl : k < σ.1.length
    · rw [List.getElem?_append_left hl] at hk
      have := h.2.2 _ _ _ hk _ hr
      show r < (σ.1 ++ [q]).length
      simp
      omega
    · rw [List.getElem?_append_right (by omega)] at hk
      have hz : k - σ.1.length < 1 := (List.getElem?_eq_some_iff.mp hk).1
      rw [show k - σ.1.length = 0 by omega] at hk
      exact absurd hr (hq ci fs (Option.some.inj hk) r)
theorem xbk_no (ci : Nat) : ∀ r : Nat, ¬ some (some r) ∈ xbk ci := by
  intro r h
  unfold xbk at h
  split at h <;> simp at h
theorem xlh.ad {ls : Array Slot} {nL : Nat} {ad ad' : Nat → Nat} {b n : Nat} {L : List xV} (h : xlh ls nL ad b L) (hL : ∀ v ∈ L, xvo n v) (ha : ∀ k, k < n → ad' k = ad k) : xlh ls nL ad' b L :=
  ⟨h.1, h.2.1, fun i v hi hv => by rw [xv_ad (hL v (List.mem_of_getElem? hi)) ha]; exact h.2.2 i v hi hv⟩
theorem xsz_push (l : List xK) (q : xK) : xsz (l ++ [q]) = xsz l + xks q := by unfold xsz; simp
theorem go_new {p : Program} {l : Launch} {e : Env} {R : Room} {s : State} {m : MethodId} {args : Array Value} {below : List Frame} {meth : Method} {c : Code} {Q : State → Prop} {own : String} {cc : ByteArray} {nL : Nat} {D : va_G} {cA : ClassId} {b Ls : Nat} {xs : Nat → Int32} {z n0 s0 : Nat} {ad0 : Nat → Nat} {σ : xS} {L S : List xV} {pc ci zz : Nat} {ts : List Nat} (C : xC p s m c own cc nL D cA b Ls xs z) (hdg : decode cc pc = .ok (.new zz, 3)) (hck : (match vwCl[ci]? with | some q => xwat ts 0 (.classLink own zz q.1) | none => false) = true)
    (hce0 : σ.1.length + 1 ≤ R.cells + n0) (hsl0 : xsz σ.1 + (xbk ci).length ≤ R.slots + s0) (k : xGo p l e R s m args below meth c Q nL D cA b z n0 s0 ad0 (pc + 3) L (.inr (.inr (.inl σ.1.length)) :: S) (xnw σ ci)) : xGo p l e R s m args below meth c Q nL D cA b z n0 s0 ad0 pc L S σ := by
  obtain ⟨hx, hb, -, hown, hT, hK, -, -, hzs, -⟩ := C
  intro ad H locs ls cells slots hP hD hS hl hso hL hSo had hn hce hsl
  split at hck
  · rename_i q hq
    have hg := xgood_of hq
    have hts := hT.all args
    have hw := xwat_in hck
    obtain ⟨hi1, hi2⟩ := xw_new hq
    obtain ⟨C0, TT, N⟩ := q
    have hN : N = (xbk ci).length := hg.2.2.2.1
    refine va_new (ty := xty ci) hx hb hts hg.1 hg.2.1 hown (hT _ hw rfl args) (hT _ hi1 rfl args) (hT _ hi2 rfl args) hK hP hD hS (fun q hq9 => Nat.le_trans hzs hq9) hq (fs := (xbk ci).mapIdx (xfv ad (fun _ => 0))) (fun j hj => ?_) (by omega) (by show slots + N ≤ R.slots; omega) hdg fun a H1 hP hD hS => ?_
    · obtain ⟨g1, g2⟩ := hg.2.2.2.2 j hj
      unfold vp_V
      rw [List.getD_eq_getElem?_getD, List.getElem?_mapIdx, g1]
      cases hrf : xrf (xty ci j) with
      | true =>
        rw [if_pos rfl]
        show defaultValue (xty ci j) = Value.null
        cases hty : xty ci j <;> rw [hty] at hrf <;> first | rfl | (exact absurd hrf (by decide))
      | false =>
        rw [if_neg (by decide)]
        show defaultValue (xty ci j) = Value.int (Int32.ofInt 0)
        rcases g2 hrf with e | e <;> rw [e] <;> rfl
    · have e := xws_push (ad := ad) (cA := cA) (q := Sum.inr (ci, xbk ci)) (a := a) hso (fun ci' fs e r hr => by cases e; exact absurd hr (xbk_no ci r))
      have e2 : xws ad cA σ ++ [(a, Sum.inr (ci, (xbk ci).mapIdx (xfv ad (fun _ => 0))))] = xws (fun k => if k = σ.1.length then a else ad k) cA (xnw σ ci) := e
      rw [e2] at hP hD
      have hlen : (xnw σ ci).1.length = σ.1.length + 1 := by unfold xnw; simp
      have hadd : ∀ k, k < σ.1.length → (fun k => if k = σ.1.length then a else ad k) k = ad k := fun k hk => by
        show (if k = σ.1.length then a else ad k) = ad k
        rw [if_neg (by omega)]
      have K := k (fun k => if k = σ.1.length then a else ad k) H1 locs ls (cells + 1) (slots + N) hP hD hS (hl.ad hL hadd) (xso_new hso (fun n e => by cases e) (fun ci' fs e => by cases e; exact xbk_no ci)) (fun v hv => xvo_mono (by omega) (hL v hv)) (by
        simp only [xall_cons]
        exact ⟨by show σ.1.length < _; omega, fun v hv => xvo_mono (by omega) (hSo v hv)⟩) (fun k hk => (hadd k (by omega)).trans (had k hk)) (by omega) (by omega) (by
        have : xsz (xnw σ ci).1 = xsz σ.1 + (xbk ci).length := xsz_push _ _
        omega)
      have e3 : List.map (xv (fun k => if k = σ.1.length then a else ad k) b) (Sum.inr (Sum.inr (Sum.inl σ.1.length)) :: S) = Value.ref a :: List.map (xv ad b) S := by
        rw [List.map_cons, xv_ads hSo hadd]
        congr 1
        show Value.ref (if σ.1.length = σ.1.length then a else _) = _
        rw [if_pos rfl]
      rw [e3] at K
      exact K
  · cases hck
def xnas (σ : xS) (n : Nat) : xS := (σ.1 ++ [(Sum.inl n : xK)], zr2 σ.2 σ.1.length)
theorem go_newa {p : Program} {l : Launch} {e : Env} {R : Room} {s : State} {m : MethodId} {args : Array Value} {below : List Frame} {meth : Method} {c : Code} {Q : State → Prop} {own : String} {cc : ByteArray} {nL : Nat} {D : va_G} {cA : ClassId} {b Ls : Nat} {xs : Nat → Int32} {z n0 s0 : Nat} {ad0 : Nat → Nat} {σ : xS} {L : List xV} {pc : Nat} {n : Int} {T : List xV} (C : xC p s m c own cc nL D cA b Ls xs z) (hdg : decode cc pc = .ok (.newarray .int, 2)) (h0 : 0 ≤ n ∧ n ≤ 100000)
    (hce0 : σ.1.length + 1 ≤ R.cells + n0) (hsl0 : xsz σ.1 + n.toNat ≤ R.slots + s0) (k : xGo p l e R s m args below meth c Q nL D cA b z n0 s0 ad0 (pc + 2) L (.inr (.inr (.inl σ.1.length)) :: T) (xnas σ n.toNat)) : xGo p l e R s m args below meth c Q nL D cA b z n0 s0 ad0 pc L (.inl n :: T) σ := by
  obtain ⟨hx, hb, -, hown, hT, hK, -, -, hzs, -⟩ := C
  intro ad H locs ls cells slots hP hD hS hl hso hL hSo had hn hce hsl
  simp only [xall_cons] at hSo
  have hi : in32 n := hSo.1
  have hcl : (Int32.ofInt n).toNatClampNeg = n.toNat := by show (Int32.ofInt n).toInt.toNat = _; rw [i_ti hi]
  have hneg : ¬ Int32.ofInt n < 0 := by rw [show (0 : Int32) = Int32.ofInt 0 from rfl, i_lt hi in32_0]; omega
  have hby : n.toNat * componentBytes .int ≤ 536870912 := by
    have e : componentBytes .int = 4 := by decide +kernel
    rw [e]
    omega
  refine va_newa (atype := .int) (ty := .int) (a0 := (n.toNat, .inl fun _ => Int32.ofInt 0)) (N' := n.toNat) hx hb (hT _ xw_arr rfl args) rfl hK hP hD hS (fun q hq9 => Nat.le_trans hzs hq9) (fun cA => rfl) hneg hcl hby (by omega) (by omega) hdg fun a cA' H1 hK' hP hD hS => ?_
  have hc : cA' = cA := by
    have g1 : s.vm.findClass ("[" ++ (FieldType.int).toString) = some cA := (hK.2 0 _ rfl).2
    have g2 : s.vm.findClass ("[" ++ (FieldType.int).toString) = some cA' := (hK'.2 1 _ rfl).2
    exact Option.some.inj (g2.symm.trans g1)
  subst hc
  have e := xws_push (ad := ad) (cA := cA') (q := Sum.inl n.toNat) (a := a) hso (fun ci' fs e r hr => by cases e)
  have e2 : xws ad cA' σ ++ [(a, Sum.inl (cA', n.toNat, Sum.inl fun _ => Int32.ofInt 0))] = xws (fun k => if k = σ.1.length then a else ad k) cA' (xnas σ n.toNat) := e
  rw [e2] at hP hD
  have hlen : (xnas σ n.toNat).1.length = σ.1.length + 1 := by unfold xnas; simp
  have hadd : ∀ k, k < σ.1.length → (fun k => if k = σ.1.length then a else ad k) k = ad k := fun k hk => by
    show (if k = σ.1.length then a else ad k) = ad k
    rw [if_neg (by omega)]
  have hso' : xso (xnas σ n.toNat) := xso_new hso (fun n' e => by cases e; omega) (fun ci' fs e => by cases e)
  have hsz : xsz (xnas σ n.toNat).1 = xsz σ.1 + n.toNat := xsz_push _ _
  have K := k (fun k => if k = σ.1.length then a else ad k) H1 locs ls (cells + 1) (slots + n.toNat) hP hD hS (hl.ad hL hadd) hso' (fun v hv => xvo_mono (by omega) (hL v hv)) (by
    simp only [xall_cons]
    exact ⟨by show σ.1.length < (xnas σ n.toNat).1.length; omega, fun v hv => xvo_mono (by omega) (hSo.2 v hv)⟩) (fun k hk => (hadd k (by omega)).trans (had k hk)) (by omega) (by omega) (by omega)
  have e3 : List.map (xv (fun k => if k = σ.1.length then a else ad k) b) (Sum.inr (Sum.inr (Sum.inl σ.1.length)) :: T) = Value.ref a :: List.map (xv ad b) T := by
    rw [List.map_cons, xv_ads hSo.2 hadd]
    congr 1
    show Value.ref (if σ.1.length = σ.1.length then a else _) = _
    rw [if_pos rfl]
  rw [e3] at K
  exact K
theorem go_oinit {p : Program} {l : Launch} {e : Env} {R : Room} {s : State} {m : MethodId} {args : Array Value} {below : List Frame} {meth : Method} {c : Code} {Q : State → Prop} {own : String} {cc : ByteArray} {nL : Nat} {D : va_G} {cA : ClassId} {b Ls : Nat} {xs : Nat → Int32} {z n0 s0 : Nat} {ad0 : Nat → Nat} {σ : xS} {L : List xV} {pc r zz : Nat} {T : List xV} (C : xC p s m c own cc nL D cA b Ls xs z) (hdg : decode cc pc = .ok (.invokespecial zz, 3)) {ts : List Nat} (hw : xwat ts 0 (.methodLink own zz Lib.objectInit) = true) (hR : 1 ≤ R.frames ∧ 20 ≤ R.locals) (hT8 : xle 8 T = true) (k : xGo p l e R s m args below meth c Q nL D cA b z n0 s0 ad0 (pc + 3) L T σ) : xGo p l e R s m args below meth c Q nL D cA b z n0 s0 ad0 pc L (.inr (.inr (.inl r)) :: T) σ := by
  obtain ⟨hx, hb, hml, hown, hT, -⟩ := C
  refine xGo.stk (fun _ h => ?_) (fun ad H locs ls cells slots hl hL h hso K => ?_) k
  · simp only [xall_cons] at h
    exact h.2
  · have hc := xle_cat (ad := ad) (b := b) 8 T hT8
    exact W.objInit hx hb hown (hT _ (xwat_in hw) rfl args) (hT _ xw_oi1 rfl args) (hT _ xw_oi2 rfl args) rfl (by rw [hml]; exact hl.1) rfl hdg hR.1 (by show 2 * 0 + _ + 12 ≤ _; omega) K
theorem go_mmin {p : Program} {l : Launch} {e : Env} {R : Room} {s : State} {m : MethodId} {args : Array Value} {below : List Frame} {meth : Method} {c : Code} {Q : State → Prop} {own : String} {cc : ByteArray} {nL : Nat} {D : va_G} {cA : ClassId} {b Ls : Nat} {xs : Nat → Int32} {z n0 s0 : Nat} {ad0 : Nat → Nat} {σ : xS} {L : List xV} {pc zz : Nat} {x y : Int} {T : List xV} (C : xC p s m c own cc nL D cA b Ls xs z) (hdg : decode cc pc = .ok (.invokestatic zz, 3)) {ts : List Nat} (hw : xwat ts 0 (.methodLink own zz Lib.Math.min.name) = true) (hR : 1 ≤ R.frames ∧ 21 ≤ R.locals) (hT8 : xle 8 T = true) (hcl : σ.1.length ≤ R.cells + n0 ∧ xsz σ.1 ≤ R.slots + s0) (k : xGo p l e R s m args below meth c Q nL D cA b z n0 s0 ad0 (pc + 3) L (.inl (if y < x then y else x) :: T) σ) : xGo p l e R s m args below meth c Q nL D cA b z n0 s0 ad0 pc L (.inl y :: .inl x :: T) σ := by
  obtain ⟨hx, hb, hml, hown, hT, -⟩ := C
  intro ad H locs ls cells slots hP hD hS hl hso hL hSo had hn hce hsl
  simp only [xall_cons] at hSo
  have hc := xle_cat (ad := ad) (b := b) 8 T hT8
  have K := k ad H locs ls cells slots hP hD hS hl hso hL (by
    simp only [xall_cons]
    refine ⟨?_, hSo.2.2⟩
    split
    · exact hSo.1
    · exact hSo.2.1) had hn hce hsl
  refine va_mmin hx hb (by rw [hml]; exact hl.1.symm) hown (hT _ (xwat_in hw) rfl args) (hT _ xw_mm1 rfl args) (hT _ xw_mm2 rfl args) (hT _ xw_mm3 rfl args) hR.1 (by omega) (by omega) (by omega) hdg ?_
  have e : (if Int32.ofInt y < Int32.ofInt x then Int32.ofInt y else Int32.ofInt x) = Int32.ofInt (if y < x then y else x) := by
    simp only [i_lt hSo.1 hSo.2.1]
    split <;> rfl
  rw [e]
  exact K
theorem go_acopy {p : Program} {l : Launch} {e : Env} {R : Room} {s : State} {m : MethodId} {args : Array Value} {below : List Frame} {meth : Method} {c : Code} {Q : State → Prop} {own : String} {cc : ByteArray} {nL : Nat} {D : va_G} {cA : ClassId} {b Ls : Nat} {xs : Nat → Int32} {z n0 s0 : Nat} {ad0 : Nat → Nat} {σ : xS} {L : List xV} {pc zz a d la ld : Nat} {sp dp n : Int} {T : List xV} (C : xC p s m c own cc nL D cA b Ls xs z) (hdg : decode cc pc = .ok (.invokestatic zz, 3)) {ts : List Nat} (hw : xwat ts 0 (.methodLink own zz arraycopyName) = true) (hR : 1 ≤ R.frames ∧ 8 + (nativeFrameWords "java/lang/System" "arraycopy" 5 + 11) ≤ R.locals) (hT8 : xle 8 T = true) (ha : σ.1[a]? = some (Sum.inl la)) (hd : σ.1[d]? = some (Sum.inl ld)) (hr : 0 ≤ sp ∧ 0 ≤ dp ∧ 0 ≤ n ∧ sp + n ≤ la ∧ dp + n ≤ ld)
    (k : xGo p l e R s m args below meth c Q nL D cA b z n0 s0 ad0 (pc + 3) L T (σ.1, cp2 σ.2 a sp.toNat d dp.toNat n.toNat)) : xGo p l e R s m args below meth c Q nL D cA b z n0 s0 ad0 pc L (.inl n :: .inl dp :: .inr (.inr (.inl d)) :: .inl sp :: .inr (.inr (.inl a)) :: T) σ := by
  obtain ⟨hx, hb, hml, hown, hT, hK, -⟩ := C
  intro ad H locs ls cells slots hP hD hS hl hso hL hSo had hn hce hsl
  simp only [xall_cons] at hSo
  obtain ⟨hn1, hdp1, -, hsp1, -, hSo2⟩ := hSo
  have hn1 : in32 n := hn1
  have hdp1 : in32 dp := hdp1
  have hsp1 : in32 sp := hsp1
  have hc := xle_cat (ad := ad) (b := b) 8 T hT8
  have cl : ∀ {x : Int}, in32 x → (Int32.ofInt x).toNatClampNeg = x.toNat := fun h => by show (Int32.ofInt _).toInt.toNat = _; rw [i_ti h]
  have nn : ∀ {x : Int}, in32 x → 0 ≤ x → ¬ Int32.ofInt x < 0 := fun h h0 => by rw [show (0 : Int32) = Int32.ofInt 0 from rfl, i_lt h in32_0]; omega
  refine va_copyi (q0 := a) (q1 := d) (t0 := 0) (t1 := 0) (ty := .int) hx hb (by rw [hml]; exact hl.1.symm) hown (hT _ (xwat_in hw) rfl args) (hT _ xw_ac1 rfl args) (hT _ xw_ac2 rfl args) (hT _ xw_ac3 rfl args) hK hP hD hS (xws_at ha) (xws_at hd) rfl rfl rfl (nn hsp1 hr.1) (nn hdp1 hr.2.1) (nn hn1 hr.2.2.1) (by rw [cl hsp1, cl hn1]; omega) (by rw [cl hdp1, cl hn1]; omega) (fun i hi => rfl) hR.1 (by omega) hdg fun H1 locs1 hP hD hS => ?_
  have e : (Sum.inl (cA, ld, Sum.inl (va_cpy (fun j => Int32.ofInt (σ.2 a j)) (fun j => Int32.ofInt (σ.2 d j)) (Int32.ofInt sp).toNatClampNeg (Int32.ofInt dp).toNatClampNeg (Int32.ofInt n).toNatClampNeg)) : va_E) = xce ad cA (cp2 σ.2 a sp.toNat d dp.toNat n.toNat d) (Sum.inl ld) := by
    show _ = (Sum.inl (cA, ld, Sum.inl fun j => Int32.ofInt (cp2 σ.2 a sp.toNat d dp.toNat n.toNat d j)) : va_E)
    congr 4
    funext j
    unfold va_cpy cp2
    rw [cl hsp1, cl hdp1, cl hn1]
    by_cases hj : dp.toNat ≤ j ∧ j < dp.toNat + n.toNat
    · rw [if_pos hj, if_pos ⟨rfl, hj⟩]
    · rw [if_neg hj, if_neg (fun h => hj h.2)]
  rw [e, xws_same hd (fun i hi => by funext j; unfold cp2; rw [if_neg (fun h => hi h.1)])] at hP hD
  refine k ad H1 locs1 ls cells slots hP hD hS hl ⟨fun k' j => ?_, hso.2⟩ hL hSo2 had hn hce hsl
  show in32 (cp2 σ.2 a sp.toNat d dp.toNat n.toNat k' j)
  unfold cp2
  split
  · exact hso.1 _ _
  · exact hso.1 _ _

/-! each operation of the interpreter is what the machine does -/
def xC (p : Program) (s : State) (m : MethodId) (c : Code) (own : String) (cc : ByteArray) (nL : Nat) (D : va_G) (cA : ClassId) (b Ls : Nat) (xs : Nat → Int32) (z : Nat) : Prop :=
  p.tables.exec = Jvm.exec ∧ c.code = cc ∧ c.maxLocals = nL ∧ s.vm.findClass own = some m.cls ∧ xTb s ∧ va_K D vwCl [(cA, .int)] s ∧ va_X b Ls xs s s.heap ∧ b < z ∧ z ≤ s.heap.size ∧ Ls ≤ 100000
/-- from here the machine comes to Q, wherever the cells lie -/
def xGo (p : Program) (l : Launch) (e : Env) (R : Room) (s : State) (m : MethodId) (args : Array Value) (below : List Frame) (meth : Method) (c : Code) (Q : State → Prop) (nL : Nat) (D : va_G) (cA : ClassId) (b z n0 s0 : Nat) (ad0 : Nat → Nat) (pc : Nat) (L S : List xV) (σ : xS) : Prop :=
  ∀ (ad : Nat → Nat) (H : Heap) (locs : List Loc) (ls : Array Slot) (cells slots : Nat), va_P D vwCl (xws ad cA σ) H → va_D (fun q : Nat => z ≤ q) (xws ad cA σ) → va_S (fun q : Nat => z ≤ q) s.heap H locs → xlh ls nL ad b L → xso σ → (∀ v ∈ L, xvo σ.1.length v) → (∀ v ∈ S, xvo σ.1.length v) → (∀ k : Nat, k < n0 → ad k = ad0 k) → n0 ≤ σ.1.length → cells + n0 = σ.1.length → slots + s0 = xsz σ.1 → W p l e R s m args below meth c H locs cells slots Q (F0 m pc ls (S.map (xv ad b)))
theorem xall_cons {n : Nat} {v : xV} {S : List xV} : (∀ u ∈ v :: S, xvo n u) ↔ xvo n v ∧ ∀ u ∈ S, xvo n u := List.forall_mem_cons
theorem pI_of {S : List xV} {q : Int × List xV} (h : pI S = some q) : S = .inl q.1 :: q.2 := by
  unfold pI at h; split at h <;> cases h; rfl
theorem pII_of {S : List xV} {q : Int × Int × List xV} (h : pII S = some q) : S = .inl q.2.1 :: .inl q.1 :: q.2.2 := by
  unfold pII at h; split at h <;> cases h; rfl
theorem pL_of {S : List xV} {q : Int × List xV} (h : pL S = some q) : S = .inr (.inl q.1) :: q.2 := by
  unfold pL at h; split at h <;> cases h; rfl
theorem pLL_of {S : List xV} {q : Int × Int × List xV} (h : pLL S = some q) : S = .inr (.inl q.2.1) :: .inr (.inl q.1) :: q.2.2 := by
  unfold pLL at h; split at h <;> cases h; rfl
theorem pR_of {S : List xV} {q : Nat × List xV} (h : pR S = some q) : S = .inr (.inr (.inl q.1)) :: q.2 := by
  unfold pR at h; split at h <;> cases h; rfl
theorem pIR_of {S : List xV} {q : Int × Nat × List xV} (h : pIR S = some q) : S = .inl q.1 :: .inr (.inr (.inl q.2.1)) :: q.2.2 := by
  unfold pIR at h; split at h <;> cases h; rfl
theorem pRR_of {S : List xV} {q : Nat × Nat × List xV} (h : pRR S = some q) : S = .inr (.inr (.inl q.1)) :: .inr (.inr (.inl q.2.1)) :: q.2.2 := by
  unfold pRR at h; split at h <;> cases h; rfl
theorem pA_of {S : List xV} {q : xV × List xV} (h : pA S = some q) : S = q.1 :: q.2 ∧ ((∃ r, q.1 = .inr (.inr (.inl r))) ∨ q.1 = vS) := by
  unfold pA at h; split at h <;> cases h
  · exact ⟨rfl, Or.inl ⟨_, rfl⟩⟩
  · exact ⟨rfl, Or.inr rfl⟩
theorem pIA_of {S : List xV} {q : Int × xV × List xV} (h : pIA S = some q) : S = .inl q.1 :: q.2.1 :: q.2.2 ∧ ((∃ r, q.2.1 = .inr (.inr (.inl r))) ∨ q.2.1 = vS) := by
  unfold pIA at h; split at h <;> cases h
  · exact ⟨rfl, Or.inl ⟨_, rfl⟩⟩
  · exact ⟨rfl, Or.inr rfl⟩
theorem p1_of {S : List xV} {q : xV × List xV} (h : p1 S = some q) : S = q.1 :: q.2 ∧ xcat q.1 = 1 := by
  unfold p1 at h; split at h <;> cases h <;> exact ⟨rfl, rfl⟩
theorem pI1_of {S : List xV} {q : Int} (h : pI1 S = some q) : S = [.inl q] := by
  unfold pI1 at h; split at h <;> cases h; rfl
theorem p0_of {S : List xV} {q : Unit} (h : p0 S = some q) : S = [] := by
  unfold p0 at h; split at h <;> cases h; rfl
theorem ldI_of {L : List xV} {a : Nat} {x : Int} (h : ldI L a = some x) : L[a]? = some (.inl x) := by
  unfold ldI at h; split at h <;> cases h; assumption
theorem ldL_of {L : List xV} {a : Nat} {x : Int} (h : ldL L a = some x) : L[a]? = some (.inr (.inl x)) := by
  unfold ldL at h; split at h <;> cases h; assumption
theorem ldA_of {L : List xV} {a : Nat} {x : xV} (h : ldA L a = some x) : L[a]? = some x ∧ ((∃ r, x = .inr (.inr (.inl r))) ∨ x = vS) := by
  unfold ldA at h; split at h <;> cases h
  · exact ⟨by assumption, Or.inl ⟨_, rfl⟩⟩
  · exact ⟨by assumption, Or.inr rfl⟩
theorem xln_of {σ : xS} {a n : Nat} (h : xln σ a = some n) : σ.1[a]? = some (Sum.inl n) := by
  unfold xln at h; split at h <;> cases h; assumption
theorem xle_cat {ad : Nat → Nat} {b : Nat} : ∀ (n : Nat) (S : List xV), xle n S = true → ((S.map (xv ad b)).map fun v => v.category).sum ≤ n := by
  intro n S h
  fun_induction xle n S with
  | case1 => simp
  | case2 n x S ih =>
    have := ih h
    simp only [List.map_cons, List.sum_cons, xv_cat, xcat] at this ⊢
    omega
  | case3 n x S ih =>
    have := ih h
    simp only [List.map_cons, List.sum_cons, xv_cat, xcat] at this ⊢
    omega
  | case4 n x S ih =>
    have := ih h
    simp only [List.map_cons, List.sum_cons, xv_cat, xcat] at this ⊢
    omega
  | case5 => cases h
theorem st8_of {n : Nat} {S S' : List xV} (h : st8 n S = some S') : S' = S ∧ xle n S = true := by
  unfold st8 at h; split at h
  · cases h; exact ⟨rfl, by assumption⟩
  · cases h
theorem xset2_ok {n : Nat} {L : List xV} {i : Nat} {v : xV} (hL : ∀ u ∈ L, xvo n u) (hv : xvo n v) : ∀ u ∈ (xset L i v).set (i + 1) vN, xvo n u := by
  intro u hu
  rcases List.mem_or_eq_of_mem_set hu with h | h
  · exact xset_ok hL hv u h
  · rw [h]; trivial
theorem xGo.stk {p : Program} {l : Launch} {e : Env} {R : Room} {s : State} {m : MethodId} {args : Array Value} {below : List Frame} {meth : Method} {c : Code} {Q : State → Prop} {nL : Nat} {D : va_G} {cA : ClassId} {b : Nat} {z n0 s0 : Nat} {ad0 : Nat → Nat} {σ : xS} {L S : List xV} {pc pc' : Nat} {S' : List xV} (hok : (∀ v ∈ L, xvo σ.1.length v) → (∀ v ∈ S, xvo σ.1.length v) → ∀ v ∈ S', xvo σ.1.length v)
    (hrow : ∀ (ad : Nat → Nat) (H : Heap) (locs : List Loc) (ls : Array Slot) (cells slots : Nat), xlh ls nL ad b L → (∀ v ∈ L, xvo σ.1.length v) → (∀ v ∈ S, xvo σ.1.length v) → xso σ → W p l e R s m args below meth c H locs cells slots Q (F0 m pc' ls (S'.map (xv ad b))) → W p l e R s m args below meth c H locs cells slots Q (F0 m pc ls (S.map (xv ad b)))) (k : xGo p l e R s m args below meth c Q nL D cA b z n0 s0 ad0 pc' L S' σ) : xGo p l e R s m args below meth c Q nL D cA b z n0 s0 ad0 pc L S σ :=
  fun ad H locs ls cells slots hP hD hS hl hso hL hSo had hn hce hsl => hrow ad H locs ls cells slots hl hL hSo hso (k ad H locs ls cells slots hP hD hS hl hso hL (hok hL hSo) had hn hce hsl)
theorem go_iadd {p : Program} {l : Launch} {e : Env} {R : Room} {s : State} {m : MethodId} {args : Array Value} {below : List Frame} {meth : Method} {c : Code} {Q : State → Prop} {own : String} {cc : ByteArray} {nL : Nat} {D : va_G} {cA : ClassId} {b Ls : Nat} {xs : Nat → Int32} {z n0 s0 : Nat} {ad0 : Nat → Nat} {σ : xS} {L : List xV} {pc : Nat} {x y : Int} {T : List xV} (C : xC p s m c own cc nL D cA b Ls xs z) (hdg : decode cc pc = .ok (.iadd, 1))  (k : xGo p l e R s m args below meth c Q nL D cA b z n0 s0 ad0 (pc + 1) L (.inl (wr (x + y)) :: T) σ) : xGo p l e R s m args below meth c Q nL D cA b z n0 s0 ad0 pc L (.inl y :: .inl x :: T) σ := by
  obtain ⟨hx, hb, -⟩ := C
  refine xGo.stk (fun _ h => ?_) (fun ad H locs ls cells slots hl hL h hso K => ?_) k
  · simp only [xall_cons] at h ⊢
    exact ⟨wr_in _, h.2.2⟩
  · simp only [xall_cons] at h
    have h1 : in32 y := h.1
    have h2 : in32 x := h.2.1
    refine lv_iadd hx hb hdg  ?_
    have e : Int32.ofInt (wr (x + y)) = Int32.ofInt x + Int32.ofInt y := i_add x y
    rw [← e]
    exact K
theorem go_isub {p : Program} {l : Launch} {e : Env} {R : Room} {s : State} {m : MethodId} {args : Array Value} {below : List Frame} {meth : Method} {c : Code} {Q : State → Prop} {own : String} {cc : ByteArray} {nL : Nat} {D : va_G} {cA : ClassId} {b Ls : Nat} {xs : Nat → Int32} {z n0 s0 : Nat} {ad0 : Nat → Nat} {σ : xS} {L : List xV} {pc : Nat} {x y : Int} {T : List xV} (C : xC p s m c own cc nL D cA b Ls xs z) (hdg : decode cc pc = .ok (.isub, 1))  (k : xGo p l e R s m args below meth c Q nL D cA b z n0 s0 ad0 (pc + 1) L (.inl (wr (x - y)) :: T) σ) : xGo p l e R s m args below meth c Q nL D cA b z n0 s0 ad0 pc L (.inl y :: .inl x :: T) σ := by
  obtain ⟨hx, hb, -⟩ := C
  refine xGo.stk (fun _ h => ?_) (fun ad H locs ls cells slots hl hL h hso K => ?_) k
  · simp only [xall_cons] at h ⊢
    exact ⟨wr_in _, h.2.2⟩
  · simp only [xall_cons] at h
    have h1 : in32 y := h.1
    have h2 : in32 x := h.2.1
    refine lv_isub hx hb hdg  ?_
    have e : Int32.ofInt (wr (x - y)) = Int32.ofInt x - Int32.ofInt y := i_sub x y
    rw [← e]
    exact K
theorem go_imul {p : Program} {l : Launch} {e : Env} {R : Room} {s : State} {m : MethodId} {args : Array Value} {below : List Frame} {meth : Method} {c : Code} {Q : State → Prop} {own : String} {cc : ByteArray} {nL : Nat} {D : va_G} {cA : ClassId} {b Ls : Nat} {xs : Nat → Int32} {z n0 s0 : Nat} {ad0 : Nat → Nat} {σ : xS} {L : List xV} {pc : Nat} {x y : Int} {T : List xV} (C : xC p s m c own cc nL D cA b Ls xs z) (hdg : decode cc pc = .ok (.imul, 1))  (k : xGo p l e R s m args below meth c Q nL D cA b z n0 s0 ad0 (pc + 1) L (.inl (wr (x * y)) :: T) σ) : xGo p l e R s m args below meth c Q nL D cA b z n0 s0 ad0 pc L (.inl y :: .inl x :: T) σ := by
  obtain ⟨hx, hb, -⟩ := C
  refine xGo.stk (fun _ h => ?_) (fun ad H locs ls cells slots hl hL h hso K => ?_) k
  · simp only [xall_cons] at h ⊢
    exact ⟨wr_in _, h.2.2⟩
  · simp only [xall_cons] at h
    have h1 : in32 y := h.1
    have h2 : in32 x := h.2.1
    refine lv_imul hx hb hdg  ?_
    have e : Int32.ofInt (wr (x * y)) = Int32.ofInt x * Int32.ofInt y := i_mul x y
    rw [← e]
    exact K
theorem in32_0 : in32 0 := by unfold in32; omega
theorem go_idiv {p : Program} {l : Launch} {e : Env} {R : Room} {s : State} {m : MethodId} {args : Array Value} {below : List Frame} {meth : Method} {c : Code} {Q : State → Prop} {own : String} {cc : ByteArray} {nL : Nat} {D : va_G} {cA : ClassId} {b Ls : Nat} {xs : Nat → Int32} {z n0 s0 : Nat} {ad0 : Nat → Nat} {σ : xS} {L : List xV} {pc : Nat} {x y : Int} {T : List xV} (C : xC p s m c own cc nL D cA b Ls xs z) (hdg : decode cc pc = .ok (.idiv, 1)) (hc : 0 ≤ x ∧ 0 < y) (k : xGo p l e R s m args below meth c Q nL D cA b z n0 s0 ad0 (pc + 1) L (.inl (x / y) :: T) σ) : xGo p l e R s m args below meth c Q nL D cA b z n0 s0 ad0 pc L (.inl y :: .inl x :: T) σ := by
  obtain ⟨hx, hb, -⟩ := C
  refine xGo.stk (fun _ h => ?_) (fun ad H locs ls cells slots hl hL h hso K => ?_) k
  · simp only [xall_cons] at h ⊢
    exact ⟨div_in h.2.1 hc.1 hc.2, h.2.2⟩
  · simp only [xall_cons] at h
    have h1 : in32 y := h.1
    have h2 : in32 x := h.2.1
    refine lv_idiv hx hb hdg (fun e0 => by rw [show (0 : Int32) = Int32.ofInt 0 from rfl, i_eq h1 in32_0] at e0; omega) ?_
    have e : Int32.ofInt (x / y) = Int32.ofInt x / Int32.ofInt y := i_div h2 h1 hc.1 hc.2
    rw [← e]
    exact K
theorem go_irem {p : Program} {l : Launch} {e : Env} {R : Room} {s : State} {m : MethodId} {args : Array Value} {below : List Frame} {meth : Method} {c : Code} {Q : State → Prop} {own : String} {cc : ByteArray} {nL : Nat} {D : va_G} {cA : ClassId} {b Ls : Nat} {xs : Nat → Int32} {z n0 s0 : Nat} {ad0 : Nat → Nat} {σ : xS} {L : List xV} {pc : Nat} {x y : Int} {T : List xV} (C : xC p s m c own cc nL D cA b Ls xs z) (hdg : decode cc pc = .ok (.irem, 1)) (hc : 0 ≤ x ∧ 0 < y) (k : xGo p l e R s m args below meth c Q nL D cA b z n0 s0 ad0 (pc + 1) L (.inl (x % y) :: T) σ) : xGo p l e R s m args below meth c Q nL D cA b z n0 s0 ad0 pc L (.inl y :: .inl x :: T) σ := by
  obtain ⟨hx, hb, -⟩ := C
  refine xGo.stk (fun _ h => ?_) (fun ad H locs ls cells slots hl hL h hso K => ?_) k
  · simp only [xall_cons] at h ⊢
    exact ⟨rem_in h.1 hc.2, h.2.2⟩
  · simp only [xall_cons] at h
    have h1 : in32 y := h.1
    have h2 : in32 x := h.2.1
    refine lv_irem hx hb hdg (fun e0 => by rw [show (0 : Int32) = Int32.ofInt 0 from rfl, i_eq h1 in32_0] at e0; omega) ?_
    have e : Int32.ofInt (x % y) = Int32.ofInt x - Int32.ofInt x / Int32.ofInt y * Int32.ofInt y := i_rem h2 h1 hc.1 hc.2
    rw [← e]
    exact K
theorem go_ixor {p : Program} {l : Launch} {e : Env} {R : Room} {s : State} {m : MethodId} {args : Array Value} {below : List Frame} {meth : Method} {c : Code} {Q : State → Prop} {own : String} {cc : ByteArray} {nL : Nat} {D : va_G} {cA : ClassId} {b Ls : Nat} {xs : Nat → Int32} {z n0 s0 : Nat} {ad0 : Nat → Nat} {σ : xS} {L : List xV} {pc : Nat} {x y : Int} {T : List xV} (C : xC p s m c own cc nL D cA b Ls xs z) (hdg : decode cc pc = .ok (.ixor, 1))  (k : xGo p l e R s m args below meth c Q nL D cA b z n0 s0 ad0 (pc + 1) L (.inl (xxor x y) :: T) σ) : xGo p l e R s m args below meth c Q nL D cA b z n0 s0 ad0 pc L (.inl y :: .inl x :: T) σ := by
  obtain ⟨hx, hb, -⟩ := C
  refine xGo.stk (fun _ h => ?_) (fun ad H locs ls cells slots hl hL h hso K => ?_) k
  · simp only [xall_cons] at h ⊢
    exact ⟨ti_in _, h.2.2⟩
  · simp only [xall_cons] at h
    have h1 : in32 y := h.1
    have h2 : in32 x := h.2.1
    refine lv_ixor hx hb hdg  ?_
    have e : Int32.ofInt (xxor x y) = Int32.ofInt x ^^^ Int32.ofInt y := i_of _
    rw [← e]
    exact K
theorem go_iushr {p : Program} {l : Launch} {e : Env} {R : Room} {s : State} {m : MethodId} {args : Array Value} {below : List Frame} {meth : Method} {c : Code} {Q : State → Prop} {own : String} {cc : ByteArray} {nL : Nat} {D : va_G} {cA : ClassId} {b Ls : Nat} {xs : Nat → Int32} {z n0 s0 : Nat} {ad0 : Nat → Nat} {σ : xS} {L : List xV} {pc : Nat} {x : Int} {T : List xV} (C : xC p s m c own cc nL D cA b Ls xs z) (hdg : decode cc pc = .ok (.iushr, 1)) (k : xGo p l e R s m args below meth c Q nL D cA b z n0 s0 ad0 (pc + 1) L (.inl (x % 4294967296 / 256) :: T) σ) : xGo p l e R s m args below meth c Q nL D cA b z n0 s0 ad0 pc L (.inl 8 :: .inl x :: T) σ := by
  obtain ⟨hx, hb, -⟩ := C
  refine xGo.stk (fun _ h => ?_) (fun ad H locs ls cells slots hl hL h hso K => ?_) k
  · simp only [xall_cons] at h ⊢
    refine ⟨?_, h.2.2⟩
    show in32 _
    unfold in32
    omega
  · exact lv_iushr hx hb hdg (i_ushr8 x) K
theorem go_iand {p : Program} {l : Launch} {e : Env} {R : Room} {s : State} {m : MethodId} {args : Array Value} {below : List Frame} {meth : Method} {c : Code} {Q : State → Prop} {own : String} {cc : ByteArray} {nL : Nat} {D : va_G} {cA : ClassId} {b Ls : Nat} {xs : Nat → Int32} {z n0 s0 : Nat} {ad0 : Nat → Nat} {σ : xS} {L : List xV} {pc : Nat} {x : Int} {T : List xV} (C : xC p s m c own cc nL D cA b Ls xs z) (hdg : decode cc pc = .ok (.iand, 1)) (k : xGo p l e R s m args below meth c Q nL D cA b z n0 s0 ad0 (pc + 1) L (.inl (x % 32) :: T) σ) : xGo p l e R s m args below meth c Q nL D cA b z n0 s0 ad0 pc L (.inl 31 :: .inl x :: T) σ := by
  obtain ⟨hx, hb, -⟩ := C
  refine xGo.stk (fun _ h => ?_) (fun ad H locs ls cells slots hl hL h hso K => ?_) k
  · simp only [xall_cons] at h ⊢
    refine ⟨?_, h.2.2⟩
    show in32 _
    unfold in32
    omega
  · refine lv_iand hx hb hdg ?_
    rw [i_and31]
    exact K
theorem in64_32 {x : Int} (h : in32 x) : in64 x := by unfold in32 at h; unfold in64; omega
theorem go_i2l {p : Program} {l : Launch} {e : Env} {R : Room} {s : State} {m : MethodId} {args : Array Value} {below : List Frame} {meth : Method} {c : Code} {Q : State → Prop} {own : String} {cc : ByteArray} {nL : Nat} {D : va_G} {cA : ClassId} {b Ls : Nat} {xs : Nat → Int32} {z n0 s0 : Nat} {ad0 : Nat → Nat} {σ : xS} {L : List xV} {pc : Nat} {x : Int} {T : List xV} (C : xC p s m c own cc nL D cA b Ls xs z) (hdg : decode cc pc = .ok (.i2l, 1)) (k : xGo p l e R s m args below meth c Q nL D cA b z n0 s0 ad0 (pc + 1) L (.inr (.inl x) :: T) σ) : xGo p l e R s m args below meth c Q nL D cA b z n0 s0 ad0 pc L (.inl x :: T) σ := by
  obtain ⟨hx, hb, -⟩ := C
  refine xGo.stk (fun _ h => ?_) (fun ad H locs ls cells slots hl hL h hso K => ?_) k
  · simp only [xall_cons] at h ⊢
    exact ⟨in64_32 h.1, h.2⟩
  · simp only [xall_cons] at h
    exact lv_i2l hx hb hdg (i_i2l h.1) K
theorem go_l2i {p : Program} {l : Launch} {e : Env} {R : Room} {s : State} {m : MethodId} {args : Array Value} {below : List Frame} {meth : Method} {c : Code} {Q : State → Prop} {own : String} {cc : ByteArray} {nL : Nat} {D : va_G} {cA : ClassId} {b Ls : Nat} {xs : Nat → Int32} {z n0 s0 : Nat} {ad0 : Nat → Nat} {σ : xS} {L : List xV} {pc : Nat} {x : Int} {T : List xV} (C : xC p s m c own cc nL D cA b Ls xs z) (hdg : decode cc pc = .ok (.l2i, 1)) (k : xGo p l e R s m args below meth c Q nL D cA b z n0 s0 ad0 (pc + 1) L (.inl (wr x) :: T) σ) : xGo p l e R s m args below meth c Q nL D cA b z n0 s0 ad0 pc L (.inr (.inl x) :: T) σ := by
  obtain ⟨hx, hb, -⟩ := C
  refine xGo.stk (fun _ h => ?_) (fun ad H locs ls cells slots hl hL h hso K => ?_) k
  · simp only [xall_cons] at h ⊢
    exact ⟨wr_in _, h.2⟩
  · simp only [xall_cons] at h
    exact lv_l2i hx hb hdg (i_l2i h.1) K
theorem go_ladd {p : Program} {l : Launch} {e : Env} {R : Room} {s : State} {m : MethodId} {args : Array Value} {below : List Frame} {meth : Method} {c : Code} {Q : State → Prop} {own : String} {cc : ByteArray} {nL : Nat} {D : va_G} {cA : ClassId} {b Ls : Nat} {xs : Nat → Int32} {z n0 s0 : Nat} {ad0 : Nat → Nat} {σ : xS} {L : List xV} {pc : Nat} {x y : Int} {T : List xV} (C : xC p s m c own cc nL D cA b Ls xs z) (hdg : decode cc pc = .ok (.ladd, 1))  (k : xGo p l e R s m args below meth c Q nL D cA b z n0 s0 ad0 (pc + 1) L (.inr (.inl (wl (x + y))) :: T) σ) : xGo p l e R s m args below meth c Q nL D cA b z n0 s0 ad0 pc L (.inr (.inl y) :: .inr (.inl x) :: T) σ := by
  obtain ⟨hx, hb, -⟩ := C
  refine xGo.stk (fun _ h => ?_) (fun ad H locs ls cells slots hl hL h hso K => ?_) k
  · simp only [xall_cons] at h ⊢
    exact ⟨wl_in _, h.2.2⟩
  · simp only [xall_cons] at h
    have h1 : in64 y := h.1
    have h2 : in64 x := h.2.1
    refine lv_ladd hx hb hdg  ?_
    have e : Int64.ofInt (wl (x + y)) = Int64.ofInt x + Int64.ofInt y := l_add x y
    rw [← e]
    exact K
theorem go_lmul {p : Program} {l : Launch} {e : Env} {R : Room} {s : State} {m : MethodId} {args : Array Value} {below : List Frame} {meth : Method} {c : Code} {Q : State → Prop} {own : String} {cc : ByteArray} {nL : Nat} {D : va_G} {cA : ClassId} {b Ls : Nat} {xs : Nat → Int32} {z n0 s0 : Nat} {ad0 : Nat → Nat} {σ : xS} {L : List xV} {pc : Nat} {x y : Int} {T : List xV} (C : xC p s m c own cc nL D cA b Ls xs z) (hdg : decode cc pc = .ok (.lmul, 1))  (k : xGo p l e R s m args below meth c Q nL D cA b z n0 s0 ad0 (pc + 1) L (.inr (.inl (wl (x * y))) :: T) σ) : xGo p l e R s m args below meth c Q nL D cA b z n0 s0 ad0 pc L (.inr (.inl y) :: .inr (.inl x) :: T) σ := by
  obtain ⟨hx, hb, -⟩ := C
  refine xGo.stk (fun _ h => ?_) (fun ad H locs ls cells slots hl hL h hso K => ?_) k
  · simp only [xall_cons] at h ⊢
    exact ⟨wl_in _, h.2.2⟩
  · simp only [xall_cons] at h
    have h1 : in64 y := h.1
    have h2 : in64 x := h.2.1
    refine lv_lmul hx hb hdg  ?_
    have e : Int64.ofInt (wl (x * y)) = Int64.ofInt x * Int64.ofInt y := l_mul x y
    rw [← e]
    exact K
theorem in64_0 : in64 0 := by unfold in64; omega
theorem go_lrem {p : Program} {l : Launch} {e : Env} {R : Room} {s : State} {m : MethodId} {args : Array Value} {below : List Frame} {meth : Method} {c : Code} {Q : State → Prop} {own : String} {cc : ByteArray} {nL : Nat} {D : va_G} {cA : ClassId} {b Ls : Nat} {xs : Nat → Int32} {z n0 s0 : Nat} {ad0 : Nat → Nat} {σ : xS} {L : List xV} {pc : Nat} {x y : Int} {T : List xV} (C : xC p s m c own cc nL D cA b Ls xs z) (hdg : decode cc pc = .ok (.lrem, 1)) (hc : 0 ≤ x ∧ 0 < y) (k : xGo p l e R s m args below meth c Q nL D cA b z n0 s0 ad0 (pc + 1) L (.inr (.inl (x % y)) :: T) σ) : xGo p l e R s m args below meth c Q nL D cA b z n0 s0 ad0 pc L (.inr (.inl y) :: .inr (.inl x) :: T) σ := by
  obtain ⟨hx, hb, -⟩ := C
  refine xGo.stk (fun _ h => ?_) (fun ad H locs ls cells slots hl hL h hso K => ?_) k
  · simp only [xall_cons] at h ⊢
    exact ⟨rem_in64 h.1 hc.2, h.2.2⟩
  · simp only [xall_cons] at h
    have h1 : in64 y := h.1
    have h2 : in64 x := h.2.1
    refine lv_lrem hx hb hdg (fun e0 => by rw [show (0 : Int64) = Int64.ofInt 0 from rfl, l_eq h1 in64_0] at e0; omega) ?_
    have e : Int64.ofInt (x % y) = Int64.ofInt x - Int64.ofInt x / Int64.ofInt y * Int64.ofInt y := l_rem h2 h1 hc.1 hc.2
    rw [← e]
    exact K
theorem cmp_in (x y : Int) : in32 (if x = y then 0 else if y < x then 1 else -1) := by unfold in32; split <;> (try split) <;> omega
theorem go_lcmp {p : Program} {l : Launch} {e : Env} {R : Room} {s : State} {m : MethodId} {args : Array Value} {below : List Frame} {meth : Method} {c : Code} {Q : State → Prop} {own : String} {cc : ByteArray} {nL : Nat} {D : va_G} {cA : ClassId} {b Ls : Nat} {xs : Nat → Int32} {z n0 s0 : Nat} {ad0 : Nat → Nat} {σ : xS} {L : List xV} {pc : Nat} {x y : Int} {T : List xV} (C : xC p s m c own cc nL D cA b Ls xs z) (hdg : decode cc pc = .ok (.lcmp, 1))  (k : xGo p l e R s m args below meth c Q nL D cA b z n0 s0 ad0 (pc + 1) L (.inl (if x = y then 0 else if y < x then 1 else -1) :: T) σ) : xGo p l e R s m args below meth c Q nL D cA b z n0 s0 ad0 pc L (.inr (.inl y) :: .inr (.inl x) :: T) σ := by
  obtain ⟨hx, hb, -⟩ := C
  refine xGo.stk (fun _ h => ?_) (fun ad H locs ls cells slots hl hL h hso K => ?_) k
  · simp only [xall_cons] at h ⊢
    exact ⟨cmp_in x y, h.2.2⟩
  · simp only [xall_cons] at h
    have h1 : in64 y := h.1
    have h2 : in64 x := h.2.1
    refine W.lcmp hx hb hdg  ?_
    have e : lg_cmp (Int64.ofInt x) (Int64.ofInt y) = Int32.ofInt (if x = y then 0 else if y < x then 1 else -1) := l_cmp h2 h1
    rw [e]
    exact K
theorem go_dup {p : Program} {l : Launch} {e : Env} {R : Room} {s : State} {m : MethodId} {args : Array Value} {below : List Frame} {meth : Method} {c : Code} {Q : State → Prop} {own : String} {cc : ByteArray} {nL : Nat} {D : va_G} {cA : ClassId} {b Ls : Nat} {xs : Nat → Int32} {z n0 s0 : Nat} {ad0 : Nat → Nat} {σ : xS} {L : List xV} {pc : Nat} {x : xV} {T : List xV} (C : xC p s m c own cc nL D cA b Ls xs z) (hdg : decode cc pc = .ok (.dup, 1)) (hc : xcat x = 1) (k : xGo p l e R s m args below meth c Q nL D cA b z n0 s0 ad0 (pc + 1) L (x :: x :: T) σ) : xGo p l e R s m args below meth c Q nL D cA b z n0 s0 ad0 pc L (x :: T) σ := by
  obtain ⟨hx, hb, -⟩ := C
  refine xGo.stk (fun _ h => ?_) (fun ad H locs ls cells slots hl hL h hso K => ?_) k
  · simp only [xall_cons] at h ⊢
    exact ⟨h.1, h.1, h.2⟩
  · exact lv_dup hx hb hdg (by rw [xv_cat]; exact hc) K
theorem go_dup2 {p : Program} {l : Launch} {e : Env} {R : Room} {s : State} {m : MethodId} {args : Array Value} {below : List Frame} {meth : Method} {c : Code} {Q : State → Prop} {own : String} {cc : ByteArray} {nL : Nat} {D : va_G} {cA : ClassId} {b Ls : Nat} {xs : Nat → Int32} {z n0 s0 : Nat} {ad0 : Nat → Nat} {σ : xS} {L : List xV} {pc : Nat} {x y : xV} {T : List xV} (C : xC p s m c own cc nL D cA b Ls xs z) (hdg : decode cc pc = .ok (.dup2, 1)) (hc : xcat x = 1) (hd : xcat y = 1) (k : xGo p l e R s m args below meth c Q nL D cA b z n0 s0 ad0 (pc + 1) L (x :: y :: x :: y :: T) σ) : xGo p l e R s m args below meth c Q nL D cA b z n0 s0 ad0 pc L (x :: y :: T) σ := by
  obtain ⟨hx, hb, -⟩ := C
  refine xGo.stk (fun _ h => ?_) (fun ad H locs ls cells slots hl hL h hso K => ?_) k
  · simp only [xall_cons] at h ⊢
    exact ⟨h.1, h.2.1, h.1, h.2.1, h.2.2⟩
  · exact lv_dup2_11 hx hb hdg (by rw [xv_cat]; exact hc) (by rw [xv_cat]; exact hd) K
theorem go_pop {p : Program} {l : Launch} {e : Env} {R : Room} {s : State} {m : MethodId} {args : Array Value} {below : List Frame} {meth : Method} {c : Code} {Q : State → Prop} {own : String} {cc : ByteArray} {nL : Nat} {D : va_G} {cA : ClassId} {b Ls : Nat} {xs : Nat → Int32} {z n0 s0 : Nat} {ad0 : Nat → Nat} {σ : xS} {L : List xV} {pc : Nat} {x : xV} {T : List xV} (C : xC p s m c own cc nL D cA b Ls xs z) (hdg : decode cc pc = .ok (.pop, 1)) (hc : xcat x = 1) (k : xGo p l e R s m args below meth c Q nL D cA b z n0 s0 ad0 (pc + 1) L T σ) : xGo p l e R s m args below meth c Q nL D cA b z n0 s0 ad0 pc L (x :: T) σ := by
  obtain ⟨hx, hb, -⟩ := C
  refine xGo.stk (fun _ h => ?_) (fun ad H locs ls cells slots hl hL h hso K => ?_) k
  · simp only [xall_cons] at h ⊢
    exact h.2
  · exact lv_pop hx hb hdg (by rw [xv_cat]; exact hc) K
theorem go_istore_n {p : Program} {l : Launch} {e : Env} {R : Room} {s : State} {m : MethodId} {args : Array Value} {below : List Frame} {meth : Method} {c : Code} {Q : State → Prop} {own : String} {cc : ByteArray} {nL : Nat} {D : va_G} {cA : ClassId} {b Ls : Nat} {xs : Nat → Int32} {z n0 s0 : Nat} {ad0 : Nat → Nat} {σ : xS} {L : List xV} {pc i : Nat} {x : Int} {T : List xV} (C : xC p s m c own cc nL D cA b Ls xs z) (hdg : decode cc pc = .ok (.istore_n (Fin.ofNat 4 i), 1)) (h4 : i < 4) (hi : i < nL) (k : xGo p l e R s m args below meth c Q nL D cA b z n0 s0 ad0 (pc + 1) (xset L i (.inl x)) T σ) : xGo p l e R s m args below meth c Q nL D cA b z n0 s0 ad0 pc L (.inl x :: T) σ := by
  obtain ⟨hx, hb, -⟩ := C
  intro ad H locs ls cells slots hP hD hS hl hso hL hSo had hn hce hsl
  simp only [xall_cons] at hSo
  exact lv_istore_n hx hb hdg (by show i % 4 = i; omega) hl.has hi rfl fun ls' h' => k ad H locs ls' cells slots hP hD hS (xlh.set1 (v := .inl x) h') hso (xset_ok hL hSo.1) hSo.2 had hn hce hsl
theorem go_istore {p : Program} {l : Launch} {e : Env} {R : Room} {s : State} {m : MethodId} {args : Array Value} {below : List Frame} {meth : Method} {c : Code} {Q : State → Prop} {own : String} {cc : ByteArray} {nL : Nat} {D : va_G} {cA : ClassId} {b Ls : Nat} {xs : Nat → Int32} {z n0 s0 : Nat} {ad0 : Nat → Nat} {σ : xS} {L : List xV} {pc i : Nat} {x : Int} {T : List xV} (C : xC p s m c own cc nL D cA b Ls xs z) (hdg : decode cc pc = .ok (.istore i, 2)) (hi : i < nL) (k : xGo p l e R s m args below meth c Q nL D cA b z n0 s0 ad0 (pc + 2) (xset L i (.inl x)) T σ) : xGo p l e R s m args below meth c Q nL D cA b z n0 s0 ad0 pc L (.inl x :: T) σ := by
  obtain ⟨hx, hb, -⟩ := C
  intro ad H locs ls cells slots hP hD hS hl hso hL hSo had hn hce hsl
  simp only [xall_cons] at hSo
  exact lv_istore hx hb hdg hl.has hi rfl fun ls' h' => k ad H locs ls' cells slots hP hD hS (xlh.set1 (v := .inl x) h') hso (xset_ok hL hSo.1) hSo.2 had hn hce hsl
theorem go_lstore_n {p : Program} {l : Launch} {e : Env} {R : Room} {s : State} {m : MethodId} {args : Array Value} {below : List Frame} {meth : Method} {c : Code} {Q : State → Prop} {own : String} {cc : ByteArray} {nL : Nat} {D : va_G} {cA : ClassId} {b Ls : Nat} {xs : Nat → Int32} {z n0 s0 : Nat} {ad0 : Nat → Nat} {σ : xS} {L : List xV} {pc i : Nat} {x : Int} {T : List xV} (C : xC p s m c own cc nL D cA b Ls xs z) (hdg : decode cc pc = .ok (.lstore_n (Fin.ofNat 4 i), 1)) (h4 : i < 4) (hi : i + 1 < nL) (k : xGo p l e R s m args below meth c Q nL D cA b z n0 s0 ad0 (pc + 1) ((xset L i (.inr (.inl x))).set (i + 1) vN) T σ) : xGo p l e R s m args below meth c Q nL D cA b z n0 s0 ad0 pc L (.inr (.inl x) :: T) σ := by
  obtain ⟨hx, hb, -⟩ := C
  intro ad H locs ls cells slots hP hD hS hl hso hL hSo had hn hce hsl
  simp only [xall_cons] at hSo
  exact lv_lstore_n hx hb hdg (by show i % 4 = i; omega) hl.has hi rfl fun ls' h' => k ad H locs ls' cells slots hP hD hS (xlh.set2 (v := .inr (.inl x)) h') hso (xset2_ok hL hSo.1) hSo.2 had hn hce hsl
theorem go_lstore {p : Program} {l : Launch} {e : Env} {R : Room} {s : State} {m : MethodId} {args : Array Value} {below : List Frame} {meth : Method} {c : Code} {Q : State → Prop} {own : String} {cc : ByteArray} {nL : Nat} {D : va_G} {cA : ClassId} {b Ls : Nat} {xs : Nat → Int32} {z n0 s0 : Nat} {ad0 : Nat → Nat} {σ : xS} {L : List xV} {pc i : Nat} {x : Int} {T : List xV} (C : xC p s m c own cc nL D cA b Ls xs z) (hdg : decode cc pc = .ok (.lstore i, 2)) (hi : i + 1 < nL) (k : xGo p l e R s m args below meth c Q nL D cA b z n0 s0 ad0 (pc + 2) ((xset L i (.inr (.inl x))).set (i + 1) vN) T σ) : xGo p l e R s m args below meth c Q nL D cA b z n0 s0 ad0 pc L (.inr (.inl x) :: T) σ := by
  obtain ⟨hx, hb, -⟩ := C
  intro ad H locs ls cells slots hP hD hS hl hso hL hSo had hn hce hsl
  simp only [xall_cons] at hSo
  exact lv_lstore hx hb hdg hl.has hi rfl fun ls' h' => k ad H locs ls' cells slots hP hD hS (xlh.set2 (v := .inr (.inl x)) h') hso (xset2_ok hL hSo.1) hSo.2 had hn hce hsl
theorem go_astore_n {p : Program} {l : Launch} {e : Env} {R : Room} {s : State} {m : MethodId} {args : Array Value} {below : List Frame} {meth : Method} {c : Code} {Q : State → Prop} {own : String} {cc : ByteArray} {nL : Nat} {D : va_G} {cA : ClassId} {b Ls : Nat} {xs : Nat → Int32} {z n0 s0 : Nat} {ad0 : Nat → Nat} {σ : xS} {L : List xV} {pc i : Nat} {x : Nat} {T : List xV} (C : xC p s m c own cc nL D cA b Ls xs z) (hdg : decode cc pc = .ok (.astore_n (Fin.ofNat 4 i), 1)) (h4 : i < 4) (hi : i < nL) (k : xGo p l e R s m args below meth c Q nL D cA b z n0 s0 ad0 (pc + 1) (xset L i (.inr (.inr (.inl x)))) T σ) : xGo p l e R s m args below meth c Q nL D cA b z n0 s0 ad0 pc L (.inr (.inr (.inl x)) :: T) σ := by
  obtain ⟨hx, hb, -⟩ := C
  intro ad H locs ls cells slots hP hD hS hl hso hL hSo had hn hce hsl
  simp only [xall_cons] at hSo
  exact lv_astore_n hx hb hdg (by show i % 4 = i; omega) hl.has hi rfl fun ls' h' => k ad H locs ls' cells slots hP hD hS (xlh.set1 (v := .inr (.inr (.inl x))) h') hso (xset_ok hL hSo.1) hSo.2 had hn hce hsl
theorem go_astore_nS {p : Program} {l : Launch} {e : Env} {R : Room} {s : State} {m : MethodId} {args : Array Value} {below : List Frame} {meth : Method} {c : Code} {Q : State → Prop} {own : String} {cc : ByteArray} {nL : Nat} {D : va_G} {cA : ClassId} {b Ls : Nat} {xs : Nat → Int32} {z n0 s0 : Nat} {ad0 : Nat → Nat} {σ : xS} {L : List xV} {pc i : Nat} {T : List xV} (C : xC p s m c own cc nL D cA b Ls xs z) (hdg : decode cc pc = .ok (.astore_n (Fin.ofNat 4 i), 1)) (h4 : i < 4) (hi : i < nL) (k : xGo p l e R s m args below meth c Q nL D cA b z n0 s0 ad0 (pc + 1) (xset L i vS) T σ) : xGo p l e R s m args below meth c Q nL D cA b z n0 s0 ad0 pc L (vS :: T) σ := by
  obtain ⟨hx, hb, -⟩ := C
  intro ad H locs ls cells slots hP hD hS hl hso hL hSo had hn hce hsl
  simp only [xall_cons] at hSo
  exact lv_astore_n hx hb hdg (by show i % 4 = i; omega) hl.has hi rfl fun ls' h' => k ad H locs ls' cells slots hP hD hS (xlh.set1 (v := vS) h') hso (xset_ok hL hSo.1) hSo.2 had hn hce hsl
theorem go_iinc {p : Program} {l : Launch} {e : Env} {R : Room} {s : State} {m : MethodId} {args : Array Value} {below : List Frame} {meth : Method} {c : Code} {Q : State → Prop} {own : String} {cc : ByteArray} {nL : Nat} {D : va_G} {cA : ClassId} {b Ls : Nat} {xs : Nat → Int32} {z n0 s0 : Nat} {ad0 : Nat → Nat} {σ : xS} {L S : List xV} {pc i : Nat} {x n : Int} (C : xC p s m c own cc nL D cA b Ls xs z) (hdg : decode cc pc = .ok (.iinc i n, 3)) (hi : i < nL) (hx0 : L[i]? = some (.inl x)) (k : xGo p l e R s m args below meth c Q nL D cA b z n0 s0 ad0 (pc + 3) (xset L i (.inl (wr (x + n)))) S σ) : xGo p l e R s m args below meth c Q nL D cA b z n0 s0 ad0 pc L S σ := by
  obtain ⟨hx, hb, -⟩ := C
  intro ad H locs ls cells slots hP hD hS hl hso hL hSo had hn hce hsl
  have hm : (i, Value.int (Int32.ofInt x)) ∈ xlm ad b L := xlm_mem.mpr ⟨_, hx0, by simp, rfl⟩
  obtain ⟨j, hj⟩ := List.getElem?_of_mem hm
  exact lv_iinc (v := Int32.ofInt (wr (x + n))) hx hb hdg hl.has hj (by rw [i_add]) hi rfl fun ls' h' => k ad H locs ls' cells slots hP hD hS (xlh.set1 (v := .inl (wr (x + n))) h') hso (xset_ok hL (wr_in _)) hSo had hn hce hsl
theorem go_iload_n {p : Program} {l : Launch} {e : Env} {R : Room} {s : State} {m : MethodId} {args : Array Value} {below : List Frame} {meth : Method} {c : Code} {Q : State → Prop} {own : String} {cc : ByteArray} {nL : Nat} {D : va_G} {cA : ClassId} {b Ls : Nat} {xs : Nat → Int32} {z n0 s0 : Nat} {ad0 : Nat → Nat} {σ : xS} {L S : List xV} {pc i : Nat} {x : Int} (C : xC p s m c own cc nL D cA b Ls xs z) (hdg : decode cc pc = .ok (.iload_n (Fin.ofNat 4 i), 1)) (h4 : i < 4) (h0 : L[i]? = some (.inl x)) (k : xGo p l e R s m args below meth c Q nL D cA b z n0 s0 ad0 (pc + 1) L (.inl x :: S) σ) : xGo p l e R s m args below meth c Q nL D cA b z n0 s0 ad0 pc L S σ := by
  obtain ⟨hx, hb, -⟩ := C
  refine xGo.stk (fun hL h => ?_) (fun ad H locs ls cells slots hl hL h hso K => ?_) k
  · simp only [xall_cons]
    exact ⟨hL _ (List.mem_of_getElem? h0), h⟩
  · exact lv_iload_n hx hb hdg (by show i % 4 = i; omega) (hl.2.2 _ _ h0 (by simp)) K
theorem go_iload {p : Program} {l : Launch} {e : Env} {R : Room} {s : State} {m : MethodId} {args : Array Value} {below : List Frame} {meth : Method} {c : Code} {Q : State → Prop} {own : String} {cc : ByteArray} {nL : Nat} {D : va_G} {cA : ClassId} {b Ls : Nat} {xs : Nat → Int32} {z n0 s0 : Nat} {ad0 : Nat → Nat} {σ : xS} {L S : List xV} {pc i : Nat} {x : Int} (C : xC p s m c own cc nL D cA b Ls xs z) (hdg : decode cc pc = .ok (.iload i, 2)) (h0 : L[i]? = some (.inl x)) (k : xGo p l e R s m args below meth c Q nL D cA b z n0 s0 ad0 (pc + 2) L (.inl x :: S) σ) : xGo p l e R s m args below meth c Q nL D cA b z n0 s0 ad0 pc L S σ := by
  obtain ⟨hx, hb, -⟩ := C
  refine xGo.stk (fun hL h => ?_) (fun ad H locs ls cells slots hl hL h hso K => ?_) k
  · simp only [xall_cons]
    exact ⟨hL _ (List.mem_of_getElem? h0), h⟩
  · exact lv_iload hx hb hdg  (hl.2.2 _ _ h0 (by simp)) K
theorem go_lload_n {p : Program} {l : Launch} {e : Env} {R : Room} {s : State} {m : MethodId} {args : Array Value} {below : List Frame} {meth : Method} {c : Code} {Q : State → Prop} {own : String} {cc : ByteArray} {nL : Nat} {D : va_G} {cA : ClassId} {b Ls : Nat} {xs : Nat → Int32} {z n0 s0 : Nat} {ad0 : Nat → Nat} {σ : xS} {L S : List xV} {pc i : Nat} {x : Int} (C : xC p s m c own cc nL D cA b Ls xs z) (hdg : decode cc pc = .ok (.lload_n (Fin.ofNat 4 i), 1)) (h4 : i < 4) (h0 : L[i]? = some (.inr (.inl x))) (k : xGo p l e R s m args below meth c Q nL D cA b z n0 s0 ad0 (pc + 1) L (.inr (.inl x) :: S) σ) : xGo p l e R s m args below meth c Q nL D cA b z n0 s0 ad0 pc L S σ := by
  obtain ⟨hx, hb, -⟩ := C
  refine xGo.stk (fun hL h => ?_) (fun ad H locs ls cells slots hl hL h hso K => ?_) k
  · simp only [xall_cons]
    exact ⟨hL _ (List.mem_of_getElem? h0), h⟩
  · exact lv_lload_n hx hb hdg (by show i % 4 = i; omega) (hl.2.2 _ _ h0 (by simp)) K
theorem go_lload {p : Program} {l : Launch} {e : Env} {R : Room} {s : State} {m : MethodId} {args : Array Value} {below : List Frame} {meth : Method} {c : Code} {Q : State → Prop} {own : String} {cc : ByteArray} {nL : Nat} {D : va_G} {cA : ClassId} {b Ls : Nat} {xs : Nat → Int32} {z n0 s0 : Nat} {ad0 : Nat → Nat} {σ : xS} {L S : List xV} {pc i : Nat} {x : Int} (C : xC p s m c own cc nL D cA b Ls xs z) (hdg : decode cc pc = .ok (.lload i, 2)) (h0 : L[i]? = some (.inr (.inl x))) (k : xGo p l e R s m args below meth c Q nL D cA b z n0 s0 ad0 (pc + 2) L (.inr (.inl x) :: S) σ) : xGo p l e R s m args below meth c Q nL D cA b z n0 s0 ad0 pc L S σ := by
  obtain ⟨hx, hb, -⟩ := C
  refine xGo.stk (fun hL h => ?_) (fun ad H locs ls cells slots hl hL h hso K => ?_) k
  · simp only [xall_cons]
    exact ⟨hL _ (List.mem_of_getElem? h0), h⟩
  · exact lv_lload hx hb hdg  (hl.2.2 _ _ h0 (by simp)) K
theorem go_aload_n {p : Program} {l : Launch} {e : Env} {R : Room} {s : State} {m : MethodId} {args : Array Value} {below : List Frame} {meth : Method} {c : Code} {Q : State → Prop} {own : String} {cc : ByteArray} {nL : Nat} {D : va_G} {cA : ClassId} {b Ls : Nat} {xs : Nat → Int32} {z n0 s0 : Nat} {ad0 : Nat → Nat} {σ : xS} {L S : List xV} {pc i : Nat} {x : Nat} (C : xC p s m c own cc nL D cA b Ls xs z) (hdg : decode cc pc = .ok (.aload_n (Fin.ofNat 4 i), 1)) (h4 : i < 4) (h0 : L[i]? = some (.inr (.inr (.inl x)))) (k : xGo p l e R s m args below meth c Q nL D cA b z n0 s0 ad0 (pc + 1) L (.inr (.inr (.inl x)) :: S) σ) : xGo p l e R s m args below meth c Q nL D cA b z n0 s0 ad0 pc L S σ := by
  obtain ⟨hx, hb, -⟩ := C
  refine xGo.stk (fun hL h => ?_) (fun ad H locs ls cells slots hl hL h hso K => ?_) k
  · simp only [xall_cons]
    exact ⟨hL _ (List.mem_of_getElem? h0), h⟩
  · exact lv_aload_n hx hb hdg (by show i % 4 = i; omega) (hl.2.2 _ _ h0 (by simp)) K
theorem go_aload_nS {p : Program} {l : Launch} {e : Env} {R : Room} {s : State} {m : MethodId} {args : Array Value} {below : List Frame} {meth : Method} {c : Code} {Q : State → Prop} {own : String} {cc : ByteArray} {nL : Nat} {D : va_G} {cA : ClassId} {b Ls : Nat} {xs : Nat → Int32} {z n0 s0 : Nat} {ad0 : Nat → Nat} {σ : xS} {L S : List xV} {pc i : Nat} (C : xC p s m c own cc nL D cA b Ls xs z) (hdg : decode cc pc = .ok (.aload_n (Fin.ofNat 4 i), 1)) (h4 : i < 4) (h0 : L[i]? = some vS) (k : xGo p l e R s m args below meth c Q nL D cA b z n0 s0 ad0 (pc + 1) L (vS :: S) σ) : xGo p l e R s m args below meth c Q nL D cA b z n0 s0 ad0 pc L S σ := by
  obtain ⟨hx, hb, -⟩ := C
  refine xGo.stk (fun hL h => ?_) (fun ad H locs ls cells slots hl hL h hso K => ?_) k
  · simp only [xall_cons]
    exact ⟨hL _ (List.mem_of_getElem? h0), h⟩
  · exact lv_aload_n hx hb hdg (by show i % 4 = i; omega) (hl.2.2 _ _ h0 (by simp)) K
theorem go_aload {p : Program} {l : Launch} {e : Env} {R : Room} {s : State} {m : MethodId} {args : Array Value} {below : List Frame} {meth : Method} {c : Code} {Q : State → Prop} {own : String} {cc : ByteArray} {nL : Nat} {D : va_G} {cA : ClassId} {b Ls : Nat} {xs : Nat → Int32} {z n0 s0 : Nat} {ad0 : Nat → Nat} {σ : xS} {L S : List xV} {pc i : Nat} {x : Nat} (C : xC p s m c own cc nL D cA b Ls xs z) (hdg : decode cc pc = .ok (.aload i, 2)) (h0 : L[i]? = some (.inr (.inr (.inl x)))) (k : xGo p l e R s m args below meth c Q nL D cA b z n0 s0 ad0 (pc + 2) L (.inr (.inr (.inl x)) :: S) σ) : xGo p l e R s m args below meth c Q nL D cA b z n0 s0 ad0 pc L S σ := by
  obtain ⟨hx, hb, -⟩ := C
  refine xGo.stk (fun hL h => ?_) (fun ad H locs ls cells slots hl hL h hso K => ?_) k
  · simp only [xall_cons]
    exact ⟨hL _ (List.mem_of_getElem? h0), h⟩
  · exact lv_aload hx hb hdg  (hl.2.2 _ _ h0 (by simp)) K
theorem go_aloadS {p : Program} {l : Launch} {e : Env} {R : Room} {s : State} {m : MethodId} {args : Array Value} {below : List Frame} {meth : Method} {c : Code} {Q : State → Prop} {own : String} {cc : ByteArray} {nL : Nat} {D : va_G} {cA : ClassId} {b Ls : Nat} {xs : Nat → Int32} {z n0 s0 : Nat} {ad0 : Nat → Nat} {σ : xS} {L S : List xV} {pc i : Nat} (C : xC p s m c own cc nL D cA b Ls xs z) (hdg : decode cc pc = .ok (.aload i, 2)) (h0 : L[i]? = some vS) (k : xGo p l e R s m args below meth c Q nL D cA b z n0 s0 ad0 (pc + 2) L (vS :: S) σ) : xGo p l e R s m args below meth c Q nL D cA b z n0 s0 ad0 pc L S σ := by
  obtain ⟨hx, hb, -⟩ := C
  refine xGo.stk (fun hL h => ?_) (fun ad H locs ls cells slots hl hL h hso K => ?_) k
  · simp only [xall_cons]
    exact ⟨hL _ (List.mem_of_getElem? h0), h⟩
  · exact lv_aload hx hb hdg  (hl.2.2 _ _ h0 (by simp)) K
theorem go_push {p : Program} {l : Launch} {e : Env} {R : Room} {s : State} {m : MethodId} {args : Array Value} {below : List Frame} {meth : Method} {c : Code} {Q : State → Prop} {nL : Nat} {D : va_G} {cA : ClassId} {b : Nat} {z n0 s0 : Nat} {ad0 : Nat → Nat} {σ : xS} {L S : List xV} {pc pc' : Nat} {v : Int} (hv : in32 v) (hrow : ∀ (H : Heap) (locs : List Loc) (ls : Array Slot) (cells slots : Nat) (rest : List Value), W p l e R s m args below meth c H locs cells slots Q (F0 m pc' ls (.int (Int32.ofInt v) :: rest)) → W p l e R s m args below meth c H locs cells slots Q (F0 m pc ls rest)) (k : xGo p l e R s m args below meth c Q nL D cA b z n0 s0 ad0 pc' L (.inl v :: S) σ) : xGo p l e R s m args below meth c Q nL D cA b z n0 s0 ad0 pc L S σ := by
  refine xGo.stk (fun hL h => ?_) (fun ad H locs ls cells slots hl hL h hso K => ?_) k
  · simp only [xall_cons]
    exact ⟨hv, h⟩
  · exact hrow _ _ _ _ _ _ K
theorem go_pushL {p : Program} {l : Launch} {e : Env} {R : Room} {s : State} {m : MethodId} {args : Array Value} {below : List Frame} {meth : Method} {c : Code} {Q : State → Prop} {nL : Nat} {D : va_G} {cA : ClassId} {b : Nat} {z n0 s0 : Nat} {ad0 : Nat → Nat} {σ : xS} {L S : List xV} {pc pc' : Nat} {v : Int} (hv : in64 v) (hrow : ∀ (H : Heap) (locs : List Loc) (ls : Array Slot) (cells slots : Nat) (rest : List Value), W p l e R s m args below meth c H locs cells slots Q (F0 m pc' ls (.long (Int64.ofInt v) :: rest)) → W p l e R s m args below meth c H locs cells slots Q (F0 m pc ls rest)) (k : xGo p l e R s m args below meth c Q nL D cA b z n0 s0 ad0 pc' L (.inr (.inl v) :: S) σ) : xGo p l e R s m args below meth c Q nL D cA b z n0 s0 ad0 pc L S σ := by
  refine xGo.stk (fun hL h => ?_) (fun ad H locs ls cells slots hl hL h hso K => ?_) k
  · simp only [xall_cons]
    exact ⟨hv, h⟩
  · exact hrow _ _ _ _ _ _ K

/-- what a method's end owes: an int -/
def xRetI (p : Program) (l : Launch) (e : Env) (R : Room) (s : State) (m : MethodId) (args : Array Value) (below : List Frame) (meth : Method) (c : Code) (Q : State → Prop) (cc : ByteArray) (ret : Option FieldType) (D : va_G) (cA : ClassId) (z n0 s0 : Nat) (ad0 : Nat → Nat) (r : xR) : Prop :=
  ∀ (x : Int) (σ : xS) (ad : Nat → Nat) (H : Heap) (locs : List Loc) (ls : Array Slot) (cells slots pc : Nat), r = (some (.inl x), σ) → decode cc pc = .ok (.ireturn, 1) → (ret = some .boolean ∧ (x = 0 ∨ x = 1)) ∨ ret = some .int → in32 x → va_P D vwCl (xws ad cA σ) H → va_D (fun q : Nat => z ≤ q) (xws ad cA σ) → va_S (fun q : Nat => z ≤ q) s.heap H locs → xso σ → (∀ k : Nat, k < n0 → ad k = ad0 k) → n0 ≤ σ.1.length → cells + n0 = σ.1.length → slots + s0 = xsz σ.1 →
    W p l e R s m args below meth c H locs cells slots Q (F0 m pc ls [.int (Int32.ofInt x)])
def xRetV (p : Program) (l : Launch) (e : Env) (R : Room) (s : State) (m : MethodId) (args : Array Value) (below : List Frame) (meth : Method) (c : Code) (Q : State → Prop) (cc : ByteArray) (ret : Option FieldType) (D : va_G) (cA : ClassId) (z n0 s0 : Nat) (ad0 : Nat → Nat) (r : xR) : Prop :=
  ∀ (σ : xS) (ad : Nat → Nat) (H : Heap) (locs : List Loc) (ls : Array Slot) (cells slots pc : Nat), r = (none, σ) → decode cc pc = .ok (.return_, 1) → ret = none → va_P D vwCl (xws ad cA σ) H → va_D (fun q : Nat => z ≤ q) (xws ad cA σ) → va_S (fun q : Nat => z ≤ q) s.heap H locs → xso σ → (∀ k : Nat, k < n0 → ad k = ad0 k) → n0 ≤ σ.1.length → cells + n0 = σ.1.length → slots + s0 = xsz σ.1 →
    W p l e R s m args below meth c H locs cells slots Q (F0 m pc ls [])
theorem go_if {p : Program} {l : Launch} {e : Env} {R : Room} {s : State} {m : MethodId} {args : Array Value} {below : List Frame} {meth : Method} {c : Code} {Q : State → Prop} {own : String} {cc : ByteArray} {nL : Nat} {D : va_G} {cA : ClassId} {b Ls : Nat} {xs : Nat → Int32} {z n0 s0 : Nat} {ad0 : Nat → Nat} {σ : xS} {L : List xV} {pc cn tgt : Nat} {x y : Int} {T : List xV} (C : xC p s m c own cc nL D cA b Ls xs z) (hdg : decode cc pc = .ok (.if_icmp (xcnd cn) ((tgt : Int) - pc), 3)) {tt ee : Option xR} {r : xR} (h : xif cn x y tt ee = some r) (kt : tt = some r → xGo p l e R s m args below meth c Q nL D cA b z n0 s0 ad0 tgt L T σ) (ke : ee = some r → xGo p l e R s m args below meth c Q nL D cA b z n0 s0 ad0 (pc + 3) L T σ) : xGo p l e R s m args below meth c Q nL D cA b z n0 s0 ad0 pc L (.inl y :: .inl x :: T) σ := by
  obtain ⟨hx, hb, -⟩ := C
  intro ad H locs ls cells slots hP hD hS hl hso hL hSo had hn hce hsl
  simp only [xall_cons] at hSo
  have hy : in32 y := hSo.1
  have hx32 : in32 x := hSo.2.1
  have KT := fun g => kt g ad H locs ls cells slots hP hD hS hl hso hL hSo.2.2 had hn hce hsl
  have KE := fun g => ke g ad H locs ls cells slots hP hD hS hl hso hL hSo.2.2 had hn hce hsl
  have ht : (pc : Int) + ((tgt : Int) - pc) = tgt := by omega
  unfold xif at h
  split at h
  · refine lv_icmp_eq hx hb hdg ht (fun g => ?_) (fun g => ?_)
    · rw [i_eq hx32 hy] at g; rw [if_pos g] at h; exact KT h
    · rw [i_eq hx32 hy] at g; rw [if_neg g] at h; exact KE h
  · refine lv_icmp_ne hx hb hdg ht (fun g => ?_) (fun g => ?_)
    · rw [i_eq hx32 hy] at g; rw [if_neg g] at h; exact KT h
    · rw [i_eq hx32 hy] at g; first | rw [if_pos g] at h | rw [if_pos (Decidable.not_not.mp g)] at h
      exact KE h
  · refine lv_icmp_lt hx hb hdg ht (fun g => ?_) (fun g => ?_)
    · rw [i_lt hx32 hy] at g; rw [if_pos g] at h; exact KT h
    · rw [i_lt hx32 hy] at g; rw [if_neg g] at h; exact KE h
  · refine lv_icmp_ge hx hb hdg ht (fun g => ?_) (fun g => ?_)
    · rw [i_le hy hx32] at g; rw [if_neg (by omega)] at h; exact KT h
    · rw [i_le hy hx32] at g; rw [if_pos (by omega)] at h; exact KE h
  · refine lv_icmp_gt hx hb hdg ht (fun g => ?_) (fun g => ?_)
    · rw [i_lt hy hx32] at g; rw [if_pos g] at h; exact KT h
    · rw [i_lt hy hx32] at g; rw [if_neg g] at h; exact KE h
  · rename_i q0 q1 q2 q3 q4
    have hc : xcnd cn = .le := by
      match cn, q0, q1, q2, q3, q4 with
      | 0, q0, _, _, _, _ => exact (q0 rfl).elim
      | 1, _, q0, _, _, _ => exact (q0 rfl).elim
      | 2, _, _, q0, _, _ => exact (q0 rfl).elim
      | 3, _, _, _, q0, _ => exact (q0 rfl).elim
      | 4, _, _, _, _, q0 => exact (q0 rfl).elim
      | n + 5, _, _, _, _, _ => rfl
    rw [hc] at hdg
    refine lv_icmp_le hx hb hdg ht (fun g => ?_) (fun g => ?_)
    · rw [i_le hx32 hy] at g; rw [if_neg (by omega)] at h; exact KT h
    · rw [i_le hx32 hy] at g; rw [if_pos (by omega)] at h; exact KE h
theorem go_if0 {p : Program} {l : Launch} {e : Env} {R : Room} {s : State} {m : MethodId} {args : Array Value} {below : List Frame} {meth : Method} {c : Code} {Q : State → Prop} {own : String} {cc : ByteArray} {nL : Nat} {D : va_G} {cA : ClassId} {b Ls : Nat} {xs : Nat → Int32} {z n0 s0 : Nat} {ad0 : Nat → Nat} {σ : xS} {L : List xV} {pc cn tgt : Nat} {x : Int} {T : List xV} (C : xC p s m c own cc nL D cA b Ls xs z) (hdg : decode cc pc = .ok (.ifCond (xcnd cn) ((tgt : Int) - pc), 3)) {tt ee : Option xR} {r : xR} (h : xif cn x 0 tt ee = some r) (kt : tt = some r → xGo p l e R s m args below meth c Q nL D cA b z n0 s0 ad0 tgt L T σ) (ke : ee = some r → xGo p l e R s m args below meth c Q nL D cA b z n0 s0 ad0 (pc + 3) L T σ) : xGo p l e R s m args below meth c Q nL D cA b z n0 s0 ad0 pc L (.inl x :: T) σ := by
  obtain ⟨hx, hb, -⟩ := C
  intro ad H locs ls cells slots hP hD hS hl hso hL hSo had hn hce hsl
  simp only [xall_cons] at hSo
  have hy : in32 0 := in32_0
  have hx32 : in32 x := hSo.1
  have KT := fun g => kt g ad H locs ls cells slots hP hD hS hl hso hL hSo.2 had hn hce hsl
  have KE := fun g => ke g ad H locs ls cells slots hP hD hS hl hso hL hSo.2 had hn hce hsl
  have ht : (pc : Int) + ((tgt : Int) - pc) = tgt := by omega
  have e0 : (0 : Int32) = Int32.ofInt 0 := rfl
  unfold xif at h
  split at h
  · refine lv_if_eq hx hb hdg ht (fun g => ?_) (fun g => ?_)
    · rw [e0, i_eq hx32 hy] at g; rw [if_pos g] at h; exact KT h
    · rw [e0, i_eq hx32 hy] at g; rw [if_neg g] at h; exact KE h
  · refine lv_if_ne hx hb hdg ht (fun g => ?_) (fun g => ?_)
    · rw [e0, i_eq hx32 hy] at g; rw [if_neg g] at h; exact KT h
    · rw [e0, i_eq hx32 hy] at g; first | rw [if_pos g] at h | rw [if_pos (Decidable.not_not.mp g)] at h
      exact KE h
  · refine lv_if_lt hx hb hdg ht (fun g => ?_) (fun g => ?_)
    · rw [e0, i_lt hx32 hy] at g; rw [if_pos g] at h; exact KT h
    · rw [e0, i_lt hx32 hy] at g; rw [if_neg g] at h; exact KE h
  · refine lv_if_ge hx hb hdg ht (fun g => ?_) (fun g => ?_)
    · rw [e0, i_le hy hx32] at g; rw [if_neg (by omega)] at h; exact KT h
    · rw [e0, i_le hy hx32] at g; rw [if_pos (by omega)] at h; exact KE h
  · refine lv_if_gt hx hb hdg ht (fun g => ?_) (fun g => ?_)
    · rw [e0, i_lt hy hx32] at g; rw [if_pos g] at h; exact KT h
    · rw [e0, i_lt hy hx32] at g; rw [if_neg g] at h; exact KE h
  · rename_i q0 q1 q2 q3 q4
    have hc : xcnd cn = .le := by
      match cn, q0, q1, q2, q3, q4 with
      | 0, q0, _, _, _, _ => exact (q0 rfl).elim
      | 1, _, q0, _, _, _ => exact (q0 rfl).elim
      | 2, _, _, q0, _, _ => exact (q0 rfl).elim
      | 3, _, _, _, q0, _ => exact (q0 rfl).elim
      | 4, _, _, _, _, q0 => exact (q0 rfl).elim
      | n + 5, _, _, _, _, _ => rfl
    rw [hc] at hdg
    refine lv_if_le hx hb hdg ht (fun g => ?_) (fun g => ?_)
    · rw [e0, i_le hx32 hy] at g; rw [if_neg (by omega)] at h; exact KT h
    · rw [e0, i_le hx32 hy] at g; rw [if_pos (by omega)] at h; exact KE h
theorem xsw_at {x : Int} {J : Nat → Option xR} {d : Nat} {r : xR} : ∀ (ts : List Nat) (lo : Int), xsw x J d lo ts = some r → ((x < lo ∨ lo + ts.length ≤ x) ∧ J d = some r) ∨ (lo ≤ x ∧ x < lo + ts.length ∧ ∃ t, ts[(x - lo).toNat]? = some t ∧ J t = some r) := by
  intro ts
  induction ts with
  | nil =>
    intro lo h
    left
    refine ⟨?_, h⟩
    simp only [List.length_nil]
    omega
  | cons t ts ih =>
    intro lo h
    unfold xsw at h
    simp only [List.length_cons]
    split at h
    · rename_i e
      right
      exact ⟨by omega, by omega, t, by rw [e]; simp, h⟩
    · rename_i e
      rcases ih _ h with ⟨h1, h2⟩ | ⟨h1, h2, t', h3, h4⟩
      · left; exact ⟨by omega, h2⟩
      · right
        refine ⟨by omega, by omega, t', ?_, h4⟩
        rw [show (x - lo).toNat = (x - (lo + 1)).toNat + 1 by omega, List.getElem?_cons_succ]
        exact h3
theorem go_table {p : Program} {l : Launch} {e : Env} {R : Room} {s : State} {m : MethodId} {args : Array Value} {below : List Frame} {meth : Method} {c : Code} {Q : State → Prop} {own : String} {cc : ByteArray} {nL : Nat} {D : va_G} {cA : ClassId} {b Ls : Nat} {xs : Nat → Int32} {z n0 s0 : Nat} {ad0 : Nat → Nat} {σ : xS} {L : List xV} {pc d len : Nat} {lo x : Int} {ts : List Nat} {T : List xV} {pb : Nat → Nat} (C : xC p s m c own cc nL D cA b Ls xs z) (hdg : decode cc pc = .ok (.tableswitch ((pb d : Int) - pc) lo (lo + ts.length - 1) (ts.map fun t => (pb t : Int) - pc).toArray, len)) {J : Nat → Option xR} {r : xR} (h : xsw x J d lo ts = some r) (k : ∀ b', J b' = some r → xGo p l e R s m args below meth c Q nL D cA b z n0 s0 ad0 (pb b') L T σ) : xGo p l e R s m args below meth c Q nL D cA b z n0 s0 ad0 pc L (.inl x :: T) σ := by
  obtain ⟨hx, hb, -⟩ := C
  intro ad H locs ls cells slots hP hD hS hl hso hL hSo had hn hce hsl
  simp only [xall_cons] at hSo
  have hx32 : in32 x := hSo.1
  rcases xsw_at _ _ h with ⟨h1, h2⟩ | ⟨h1, h2, t, h3, h4⟩
  · exact lv_tableOut hx hb hdg (by rw [i_ti hx32]; omega) (tgt := pb d) (by omega) (k d h2 ad H locs ls cells slots hP hD hS hl hso hL hSo.2 had hn hce hsl)
  · refine lv_tableIn hx hb hdg (by rw [i_ti hx32]; omega) (by rw [i_ti hx32]; omega) (off := (pb t : Int) - pc) ?_ (tgt := pb t) (by omega) (k t h4 ad H locs ls cells slots hP hD hS hl hso hL hSo.2 had hn hce hsl)
    rw [i_ti hx32, List.getElem?_toArray, List.getElem?_map, h3]
    rfl
theorem go_goto {p : Program} {l : Launch} {e : Env} {R : Room} {s : State} {m : MethodId} {args : Array Value} {below : List Frame} {meth : Method} {c : Code} {Q : State → Prop} {own : String} {cc : ByteArray} {nL : Nat} {D : va_G} {cA : ClassId} {b Ls : Nat} {xs : Nat → Int32} {z n0 s0 : Nat} {ad0 : Nat → Nat} {σ : xS} {L S : List xV} {pc tgt : Nat} (C : xC p s m c own cc nL D cA b Ls xs z) (hdg : decode cc pc = .ok (.goto ((tgt : Int) - pc), 3)) (k : xGo p l e R s m args below meth c Q nL D cA b z n0 s0 ad0 tgt L S σ) : xGo p l e R s m args below meth c Q nL D cA b z n0 s0 ad0 pc L S σ := by
  obtain ⟨hx, hb, -⟩ := C
  intro ad H locs ls cells slots hP hD hS hl hso hL hSo had hn hce hsl
  exact lv_goto hx hb hdg (by omega) (k ad H locs ls cells slots hP hD hS hl hso hL hSo had hn hce hsl)
theorem xpure_go {p : Program} {l : Launch} {e : Env} {R : Room} {s : State} {m : MethodId} {args : Array Value} {below : List Frame} {meth : Method} {c : Code} {Q : State → Prop} {own : String} {cc : ByteArray} {nL : Nat} {D : va_G} {cA : ClassId} {b Ls : Nat} {xs : Nat → Int32} {z n0 s0 : Nat} {ad0 : Nat → Nat} {σ : xS} {L S : List xV} {rf rl : Nat} {ret : Option FieldType} {ini : Bool} {pb : Nat → Nat} {pc len o w a c' zz : Nat} {v : Int} {ts : List Nat} {q : List xV × List xV} (C : xC p s m c own cc nL D cA b Ls xs z) (ho : o ≤ 25) (hck : xck own cc pb rf rl nL ret ini (pc, len, o, w, a, c', zz, v, ts) = true) (h : xpure o a v L S = some q) (k : xGo p l e R s m args below meth c Q nL D cA b z n0 s0 ad0 (pc + len) q.1 q.2 σ) : xGo p l e R s m args below meth c Q nL D cA b z n0 s0 ad0 pc L S σ := by
  have Cx := C
  obtain ⟨hx, hb, -, hown, hT, -⟩ := C
  unfold xck at hck
  unfold xpure at h
  match o, ho, h, hck with
  | 0, _, h, hck =>
    simp only [Bool.and_eq_true, Bool.or_eq_true, decide_eq_true_eq] at hck
    obtain ⟨hdg, ⟨hv1, hv2⟩, hck⟩ := hck
    have hdg := hdg.resolve_left (by omega)
    cases h
    have hv : in32 v := ⟨hv1, hv2⟩
    match w, hck, hdg with
    | 0, hck, hdg =>
      simp only [decide_eq_true_eq] at hck; subst hck
      exact go_push hv (fun H locs ls cells slots rest K => lv_iconst hx hb hdg rfl K) k
    | 1, hck, hdg =>
      simp only [Bool.and_eq_true, decide_eq_true_eq] at hck; obtain ⟨rfl, h2⟩ := hck
      exact go_push hv (fun H locs ls cells slots rest K => lv_bipush hx hb hdg h2 K) k
    | 2, hck, hdg =>
      simp only [Bool.and_eq_true, decide_eq_true_eq] at hck; obtain ⟨rfl, h2⟩ := hck
      exact go_push hv (fun H locs ls cells slots rest K => lv_sipush hx hb hdg h2 K) k
    | w' + 3, hck, hdg =>
      simp only [Bool.and_eq_true, decide_eq_true_eq] at hck; obtain ⟨rfl, h2⟩ := hck
      have hdg2 : decode cc pc = .ok (.ldc zz, 2) := hdg
      exact go_push hv (fun H locs ls cells slots rest K => lv_ldc hx hb hown (hT _ (xwat_in h2) rfl args) hdg2 K) k
  | 1, _, h, hck =>
    simp only [Bool.and_eq_true, Bool.or_eq_true, decide_eq_true_eq] at hck
    obtain ⟨hdg, hck⟩ := hck
    have hdg := hdg.resolve_left (by omega)
    obtain ⟨x, hx0, h⟩ := Option.bind_eq_some_iff.mp h
    cases h
    match w, hck, hdg with
    | 0, hck, hdg =>
      simp only [decide_eq_true_eq] at hck; subst hck
      exact go_iload Cx hdg (ldI_of hx0) k
    | w' + 1, hck, hdg =>
      simp only [Bool.and_eq_true, decide_eq_true_eq] at hck; obtain ⟨rfl, h2⟩ := hck
      exact go_iload_n Cx hdg h2 (ldI_of hx0) k
  | 2, _, h, hck =>
    simp only [Bool.and_eq_true, Bool.or_eq_true, decide_eq_true_eq] at hck
    obtain ⟨hdg, hck⟩ := hck
    have hdg := hdg.resolve_left (by omega)
    obtain ⟨x, hx0, h⟩ := Option.bind_eq_some_iff.mp h
    cases h
    obtain ⟨hx1, hx2⟩ := ldA_of hx0
    match w, hck, hdg with
    | 0, hck, hdg =>
      simp only [decide_eq_true_eq] at hck; subst hck
      rcases hx2 with ⟨r, rfl⟩ | rfl
      · exact go_aload Cx hdg hx1 k
      · exact go_aloadS Cx hdg hx1 k
    | w' + 1, hck, hdg =>
      simp only [Bool.and_eq_true, decide_eq_true_eq] at hck; obtain ⟨rfl, h2⟩ := hck
      have hdg2 : decode cc pc = .ok (.aload_n (Fin.ofNat 4 a), 1) := hdg
      rcases hx2 with ⟨r, rfl⟩ | rfl
      · exact go_aload_n Cx hdg2 h2 hx1 k
      · exact go_aload_nS Cx hdg2 h2 hx1 k
  | 3, _, h, hck =>
    simp only [Bool.and_eq_true, Bool.or_eq_true, decide_eq_true_eq] at hck
    obtain ⟨hdg, hck⟩ := hck
    have hdg := hdg.resolve_left (by omega)
    obtain ⟨x, hx0, h⟩ := Option.bind_eq_some_iff.mp h
    cases h
    match w, hck, hdg with
    | 0, hck, hdg =>
      simp only [decide_eq_true_eq] at hck; subst hck
      exact go_lload Cx hdg (ldL_of hx0) k
    | w' + 1, hck, hdg =>
      simp only [Bool.and_eq_true, decide_eq_true_eq] at hck; obtain ⟨rfl, h2⟩ := hck
      exact go_lload_n Cx hdg h2 (ldL_of hx0) k
  | 4, _, h, hck =>
    simp only [Bool.and_eq_true, Bool.or_eq_true, decide_eq_true_eq] at hck
    obtain ⟨hdg, hi, hck⟩ := hck
    have hdg := hdg.resolve_left (by omega)
    obtain ⟨q1, hq1, h⟩ := Option.bind_eq_some_iff.mp h
    cases h
    rw [pI_of hq1]
    match w, hck, hdg with
    | 0, hck, hdg =>
      simp only [decide_eq_true_eq] at hck; subst hck
      exact go_istore Cx hdg hi k
    | w' + 1, hck, hdg =>
      simp only [Bool.and_eq_true, decide_eq_true_eq] at hck; obtain ⟨rfl, h2⟩ := hck
      exact go_istore_n Cx hdg h2 hi k
  | 5, _, h, hck =>
    simp only [Bool.and_eq_true, Bool.or_eq_true, decide_eq_true_eq] at hck
    obtain ⟨hdg, hi, hck⟩ := hck
    have hdg := hdg.resolve_left (by omega)
    obtain ⟨q1, hq1, h⟩ := Option.bind_eq_some_iff.mp h
    cases h
    obtain ⟨e1, e2⟩ := pA_of hq1
    rw [e1]
    match w, hck, hdg with
    | 0, hck, hdg => cases hck
    | w' + 1, hck, hdg =>
      simp only [Bool.and_eq_true, decide_eq_true_eq] at hck; obtain ⟨rfl, h2⟩ := hck
      have hdg2 : decode cc pc = .ok (.astore_n (Fin.ofNat 4 a), 1) := hdg
      rcases e2 with ⟨r, e2⟩ | e2
      · rw [e2] at k ⊢
        exact go_astore_n Cx hdg2 h2 hi k
      · rw [e2] at k ⊢
        exact go_astore_nS Cx hdg2 h2 hi k
  | 6, _, h, hck =>
    simp only [Bool.and_eq_true, Bool.or_eq_true, decide_eq_true_eq] at hck
    obtain ⟨hdg, hi, hck⟩ := hck
    have hdg := hdg.resolve_left (by omega)
    obtain ⟨q1, hq1, h⟩ := Option.bind_eq_some_iff.mp h
    cases h
    rw [pL_of hq1]
    match w, hck, hdg with
    | 0, hck, hdg =>
      simp only [decide_eq_true_eq] at hck; subst hck
      exact go_lstore Cx hdg hi k
    | w' + 1, hck, hdg =>
      simp only [Bool.and_eq_true, decide_eq_true_eq] at hck; obtain ⟨rfl, h2⟩ := hck
      exact go_lstore_n Cx hdg h2 hi k
  | 7, _, h, hck =>
    simp only [Bool.and_eq_true, Bool.or_eq_true, decide_eq_true_eq] at hck
    obtain ⟨hdg, hi, rfl⟩ := hck
    have hdg := hdg.resolve_left (by omega)
    obtain ⟨x, hx0, h⟩ := Option.bind_eq_some_iff.mp h
    cases h
    exact go_iinc Cx hdg hi (ldI_of hx0) k
  | 18, _, h, hck =>
    simp only [Bool.and_eq_true, Bool.or_eq_true, decide_eq_true_eq] at hck
    obtain ⟨hdg, hck⟩ := hck
    have hdg := hdg.resolve_left (by omega)
    cases h
    match w, hck, hdg with
    | 0, hck, hdg =>
      simp only [Bool.and_eq_true, Bool.or_eq_true, decide_eq_true_eq] at hck
      obtain ⟨rfl, hv⟩ := hck
      rcases hv with rfl | rfl
      · exact go_pushL in64_0 (fun H locs ls cells slots rest K => lv_lconst hx hb hdg rfl K) k
      · exact go_pushL (by unfold in64; omega) (fun H locs ls cells slots rest K => lv_lconst hx hb hdg rfl K) k
    | w' + 1, hck, hdg =>
      simp only [Bool.and_eq_true, decide_eq_true_eq] at hck
      obtain ⟨⟨⟨rfl, h2⟩, h3⟩, h4⟩ := hck
      have hdg2 : decode cc pc = .ok (.ldc2_w zz, 3) := hdg
      exact go_pushL ⟨h2, h3⟩ (fun H locs ls cells slots rest K => lv_ldc2 hx hb hown (hT _ (xwat_in h4) rfl args) hdg2 K) k
  | 8, _, h, hck =>
    simp only [Bool.and_eq_true, Bool.or_eq_true, decide_eq_true_eq] at hck
    obtain ⟨hdg, rfl, -⟩ := hck
    have hdg := hdg.resolve_left (by omega)
    obtain ⟨q1, hq1, h⟩ := Option.bind_eq_some_iff.mp h
    cases h
    rw [pII_of hq1]
    exact go_iadd Cx hdg k
  | 9, _, h, hck =>
    simp only [Bool.and_eq_true, Bool.or_eq_true, decide_eq_true_eq] at hck
    obtain ⟨hdg, rfl, -⟩ := hck
    have hdg := hdg.resolve_left (by omega)
    obtain ⟨q1, hq1, h⟩ := Option.bind_eq_some_iff.mp h
    cases h
    rw [pII_of hq1]
    exact go_isub Cx hdg k
  | 10, _, h, hck =>
    simp only [Bool.and_eq_true, Bool.or_eq_true, decide_eq_true_eq] at hck
    obtain ⟨hdg, rfl, -⟩ := hck
    have hdg := hdg.resolve_left (by omega)
    obtain ⟨q1, hq1, h⟩ := Option.bind_eq_some_iff.mp h
    cases h
    rw [pII_of hq1]
    exact go_imul Cx hdg k
  | 15, _, h, hck =>
    simp only [Bool.and_eq_true, Bool.or_eq_true, decide_eq_true_eq] at hck
    obtain ⟨hdg, rfl, -⟩ := hck
    have hdg := hdg.resolve_left (by omega)
    obtain ⟨q1, hq1, h⟩ := Option.bind_eq_some_iff.mp h
    cases h
    rw [pII_of hq1]
    exact go_ixor Cx hdg k
  | 16, _, h, hck =>
    simp only [Bool.and_eq_true, Bool.or_eq_true, decide_eq_true_eq] at hck
    obtain ⟨hdg, rfl, -⟩ := hck
    have hdg := hdg.resolve_left (by omega)
    obtain ⟨q1, hq1, h⟩ := Option.bind_eq_some_iff.mp h
    cases h
    rw [pI_of hq1]
    exact go_i2l Cx hdg k
  | 17, _, h, hck =>
    simp only [Bool.and_eq_true, Bool.or_eq_true, decide_eq_true_eq] at hck
    obtain ⟨hdg, rfl, -⟩ := hck
    have hdg := hdg.resolve_left (by omega)
    obtain ⟨q1, hq1, h⟩ := Option.bind_eq_some_iff.mp h
    cases h
    rw [pL_of hq1]
    exact go_l2i Cx hdg k
  | 19, _, h, hck =>
    simp only [Bool.and_eq_true, Bool.or_eq_true, decide_eq_true_eq] at hck
    obtain ⟨hdg, rfl, -⟩ := hck
    have hdg := hdg.resolve_left (by omega)
    obtain ⟨q1, hq1, h⟩ := Option.bind_eq_some_iff.mp h
    cases h
    rw [pLL_of hq1]
    exact go_lcmp Cx hdg k
  | 20, _, h, hck =>
    simp only [Bool.and_eq_true, Bool.or_eq_true, decide_eq_true_eq] at hck
    obtain ⟨hdg, rfl, -⟩ := hck
    have hdg := hdg.resolve_left (by omega)
    obtain ⟨q1, hq1, h⟩ := Option.bind_eq_some_iff.mp h
    cases h
    rw [pLL_of hq1]
    exact go_ladd Cx hdg k
  | 21, _, h, hck =>
    simp only [Bool.and_eq_true, Bool.or_eq_true, decide_eq_true_eq] at hck
    obtain ⟨hdg, rfl, -⟩ := hck
    have hdg := hdg.resolve_left (by omega)
    obtain ⟨q1, hq1, h⟩ := Option.bind_eq_some_iff.mp h
    cases h
    rw [pLL_of hq1]
    exact go_lmul Cx hdg k
  | 23, _, h, hck =>
    simp only [Bool.and_eq_true, Bool.or_eq_true, decide_eq_true_eq] at hck
    obtain ⟨hdg, rfl, -⟩ := hck
    have hdg := hdg.resolve_left (by omega)
    obtain ⟨q1, hq1, h⟩ := Option.bind_eq_some_iff.mp h
    cases h
    obtain ⟨e1, e2⟩ := p1_of hq1
    rw [e1]
    exact go_dup Cx hdg e2 k
  | 24, _, h, hck =>
    simp only [Bool.and_eq_true, Bool.or_eq_true, decide_eq_true_eq] at hck
    obtain ⟨hdg, rfl, -⟩ := hck
    have hdg := hdg.resolve_left (by omega)
    obtain ⟨q1, hq1, h⟩ := Option.bind_eq_some_iff.mp h
    obtain ⟨q2, hq2, h⟩ := Option.bind_eq_some_iff.mp h
    cases h
    obtain ⟨e1, e2⟩ := p1_of hq1
    obtain ⟨e3, e4⟩ := p1_of hq2
    rw [e1, e3]
    exact go_dup2 Cx hdg e2 e4 k
  | 25, _, h, hck =>
    simp only [Bool.and_eq_true, Bool.or_eq_true, decide_eq_true_eq] at hck
    obtain ⟨hdg, rfl, -⟩ := hck
    have hdg := hdg.resolve_left (by omega)
    obtain ⟨q1, hq1, h⟩ := Option.bind_eq_some_iff.mp h
    cases h
    obtain ⟨e1, e2⟩ := p1_of hq1
    rw [e1]
    exact go_pop Cx hdg e2 k

/-! calls, and a whole run -/
def xle2 (σ σ' : xS) : Prop := σ.1.length ≤ σ'.1.length ∧ xsz σ.1 ≤ xsz σ'.1
theorem xle2.rf {σ : xS} : xle2 σ σ := ⟨Nat.le_refl _, Nat.le_refl _⟩
theorem xle2.tr {σ1 σ2 σ3 : xS} (h : xle2 σ1 σ2) (h2 : xle2 σ2 σ3) : xle2 σ1 σ3 := ⟨Nat.le_trans h.1 h2.1, Nat.le_trans h.2 h2.2⟩
theorem xgi_of {σ : xS} {h0 ci k : Nat} {x : Int} (h : xgi σ h0 ci k = some x) : ∃ ks, σ.1[h0]? = some (Sum.inr (ci, ks)) ∧ ks[k]? = some none ∧ x = σ.2 h0 k := by
  unfold xgi at h
  split at h
  · split at h
    · rename_i hc
      subst hc
      split at h
      · cases h; exact ⟨_, by assumption, by assumption, rfl⟩
      · cases h
    · cases h
  · cases h
theorem xgr_of {σ : xS} {h0 ci k r : Nat} (h : xgr σ h0 ci k = some r) : ∃ ks, σ.1[h0]? = some (Sum.inr (ci, ks)) ∧ ks[k]? = some (some (some r)) := by
  unfold xgr at h
  split at h
  · split at h
    · rename_i hc
      subst hc
      split at h
      · cases h; exact ⟨_, by assumption, by assumption⟩
      · cases h
    · cases h
  · cases h
theorem xpi_of {σ : xS} {h0 ci k : Nat} {u : Unit} (h : xpi σ h0 ci k = some u) : ∃ ks, σ.1[h0]? = some (Sum.inr (ci, ks)) ∧ ks[k]? = some none := by
  unfold xpi at h
  split at h
  · split at h
    · rename_i hc
      subst hc
      split at h
      · cases h; exact ⟨_, by assumption, by assumption⟩
      · cases h
    · cases h
  · cases h
theorem xpr_of {σ σ' : xS} {h0 ci k r : Nat} (h : xpr σ h0 ci k r = some σ') : ∃ ks o, σ.1[h0]? = some (Sum.inr (ci, ks)) ∧ ks[k]? = some (some o) ∧ σ' = (σ.1.set h0 (Sum.inr (ci, ks.set k (some (some r)))), σ.2) := by
  unfold xpr at h
  split at h
  · split at h
    · rename_i hc
      subst hc
      split at h
      · cases h; exact ⟨_, _, by assumption, by assumption, rfl⟩
      · cases h
    · cases h
  · cases h
theorem xna_of {σ σ' : xS} {n : Int} (h : xna σ n = some σ') : (0 ≤ n ∧ n ≤ 100000) ∧ σ' = xnas σ n.toNat := by
  unfold xna at h
  split at h
  · cases h; exact ⟨by assumption, rfl⟩
  · cases h
theorem xle2_pr {σ : xS} {h0 ci k r : Nat} {ks : List (Option (Option Nat))} (h : σ.1[h0]? = some (Sum.inr (ci, ks))) : xle2 σ (σ.1.set h0 (Sum.inr (ci, ks.set k (some (some r)))), σ.2) :=
  ⟨by simp, by show _ ≤ xsz (σ.1.set h0 _); rw [xsz_set h (by simp [xks])]; exact Nat.le_refl _⟩
theorem xle2_nw {σ : xS} {ci : Nat} : xle2 σ (xnw σ ci) := ⟨by unfold xnw; simp, by show _ ≤ xsz (σ.1 ++ _); rw [xsz_push]; omega⟩
theorem xle2_na {σ : xS} {n : Nat} : xle2 σ (xnas σ n) := ⟨by unfold xnas; simp, by show _ ≤ xsz (σ.1 ++ _); rw [xsz_push]; omega⟩
theorem xmemo_sz {sc : Nat × (Nat → Int)} {o w a c : Nat} {S : List xV} {σ : xS} {q : List xV × xS} (h : xmemo sc o w a c S σ = some q) : xle2 σ q.2 := by
  unfold xmemo at h
  split at h
  · obtain ⟨q1, -, h⟩ := Option.bind_eq_some_iff.mp h
    obtain ⟨q2, -, h⟩ := Option.bind_eq_some_iff.mp h
    cases h; exact .rf
  · obtain ⟨q1, -, h⟩ := Option.bind_eq_some_iff.mp h
    obtain ⟨q2, -, h⟩ := Option.bind_eq_some_iff.mp h
    cases h; exact .rf
  · obtain ⟨q1, -, h⟩ := Option.bind_eq_some_iff.mp h
    obtain ⟨q2, -, h⟩ := Option.bind_eq_some_iff.mp h
    cases h; exact .rf
  · obtain ⟨q1, -, h⟩ := Option.bind_eq_some_iff.mp h
    obtain ⟨σ', hs, h⟩ := Option.bind_eq_some_iff.mp h
    obtain ⟨ks, o, h1, -, rfl⟩ := xpr_of hs
    cases h; exact xle2_pr h1
  · cases h; exact xle2_nw
  · obtain ⟨q1, -, h⟩ := Option.bind_eq_some_iff.mp h
    obtain ⟨σ', hs, h⟩ := Option.bind_eq_some_iff.mp h
    obtain ⟨-, rfl⟩ := xna_of hs
    cases h; exact xle2_na
  · obtain ⟨q1, -, h⟩ := Option.bind_eq_some_iff.mp h
    obtain ⟨q2, -, h⟩ := Option.bind_eq_some_iff.mp h
    cases h; exact .rf
  · obtain ⟨q1, -, h⟩ := Option.bind_eq_some_iff.mp h
    obtain ⟨q2, -, h⟩ := Option.bind_eq_some_iff.mp h
    cases h; exact .rf
  · cases h
theorem ite_or {P : Prop} [Decidable P] {t : Option xR} {r : xR} (h : (if P then t else none) = some r) : P ∧ t = some r := by
  split at h
  · exact ⟨by assumption, h⟩
  · cases h
theorem xif_or {c : Nat} {x y : Int} {t e : Option xR} {r : xR} (h : xif c x y t e = some r) : t = some r ∨ e = some r := by
  unfold xif at h
  split at h <;> split at h <;> first | exact Or.inl h | exact Or.inr h
theorem xsw_or {x : Int} {J : Nat → Option xR} {d : Nat} {r : xR} : ∀ (ts : List Nat) (lo : Int), xsw x J d lo ts = some r → ∃ b, J b = some r := by
  intro ts
  induction ts with
  | nil => intro lo h; exact ⟨d, h⟩
  | cons t ts ih =>
    intro lo h
    unfold xsw at h
    split at h
    · exact ⟨t, h⟩
    · exact ih _ h
theorem xstep_sz {sc : Nat × (Nat → Int)} {env : Nat → List xV → xS → Option xR} {j : Nat → List xV → List xV → xS → Option xR} {e : xI} {L S : List xV} {σ : xS} {k : List xV → List xV → xS → Option xR} {r : xR}
    (hE : ∀ a as σ q, env a as σ = some q → xle2 σ q.2) (hJ : ∀ b L S σ, j b L S σ = some r → xle2 σ r.2) (hk : ∀ L S σ, k L S σ = some r → xle2 σ r.2)
    (h : xstep sc env j e L S σ k = some r) : xle2 σ r.2 := by
  obtain ⟨pc, len, o, w, a, c, z, v, ts⟩ := e
  unfold xstep at h
  dsimp only at h
  split at h
  · exact hJ _ _ _ _ h
  · exact hJ _ _ _ _ h
  · obtain ⟨q, hq, h⟩ := Option.bind_eq_some_iff.mp h
    rcases xif_or h with h | h
    · exact hJ _ _ _ _ h
    · exact hk _ _ _ h
  · obtain ⟨q, hq, h⟩ := Option.bind_eq_some_iff.mp h
    rcases xif_or h with h | h
    · exact hJ _ _ _ _ h
    · exact hk _ _ _ h
  · obtain ⟨q, hq, h⟩ := Option.bind_eq_some_iff.mp h
    obtain ⟨b, h⟩ := xsw_or _ _ h
    exact hJ _ _ _ _ h
  iterate 5
    · obtain ⟨q, hq, h⟩ := Option.bind_eq_some_iff.mp h
      exact hk _ _ _ (ite_or h).2
  · obtain ⟨q, hq, h⟩ := Option.bind_eq_some_iff.mp h
    obtain ⟨n, hn, h⟩ := Option.bind_eq_some_iff.mp h
    exact hk _ _ _ (ite_or h).2
  · obtain ⟨q, hq, h⟩ := Option.bind_eq_some_iff.mp h
    obtain ⟨q2, hq2, h⟩ := Option.bind_eq_some_iff.mp h
    obtain ⟨n, hn, h⟩ := Option.bind_eq_some_iff.mp h
    have g := hk _ _ _ (ite_or h).2
    exact g
  · obtain ⟨q, hq, h⟩ := Option.bind_eq_some_iff.mp h
    obtain ⟨u, hu, h⟩ := Option.bind_eq_some_iff.mp h
    split at h
    · have g := hk _ _ _ h
      exact g
    · have g := hk _ _ _ (ite_or h).2
      exact g
  · obtain ⟨n, hn, h⟩ := Option.bind_eq_some_iff.mp h
    obtain ⟨d, hd, h⟩ := Option.bind_eq_some_iff.mp h
    obtain ⟨s, hs, h⟩ := Option.bind_eq_some_iff.mp h
    obtain ⟨S', hS, h⟩ := Option.bind_eq_some_iff.mp h
    obtain ⟨la, hla, h⟩ := Option.bind_eq_some_iff.mp h
    obtain ⟨ld, hld, h⟩ := Option.bind_eq_some_iff.mp h
    have g := hk _ _ _ (ite_or h).2
    exact g
  iterate 8
    · obtain ⟨q, hq, h⟩ := Option.bind_eq_some_iff.mp h
      exact (xmemo_sz hq).tr (hk _ _ _ h)
  · obtain ⟨q, hq, h⟩ := Option.bind_eq_some_iff.mp h
    obtain ⟨S', hS, h⟩ := Option.bind_eq_some_iff.mp h
    obtain ⟨x, σ', hc, h⟩ := xcI_of h
    obtain ⟨h0, as', e1, e2, e3⟩ := xcv_of hc
    exact (hE _ _ _ _ e3).tr (hk _ _ _ h)
  · obtain ⟨q, hq, h⟩ := Option.bind_eq_some_iff.mp h
    obtain ⟨S', hS, h⟩ := Option.bind_eq_some_iff.mp h
    obtain ⟨σ', hc, h⟩ := xcV_of h
    obtain ⟨h0, as', e1, e2, e3⟩ := xcv_of hc
    exact (hE _ _ _ _ e3).tr (hk _ _ _ h)
  · obtain ⟨q, hq, h⟩ := Option.bind_eq_some_iff.mp h
    obtain ⟨S', hS, h⟩ := Option.bind_eq_some_iff.mp h
    obtain ⟨x, σ', hc, h⟩ := xcI_of h
    exact (hE _ _ _ _ hc).tr (hk _ _ _ h)
  · obtain ⟨q, hq, h⟩ := Option.bind_eq_some_iff.mp h
    obtain ⟨S', hS, h⟩ := Option.bind_eq_some_iff.mp h
    obtain ⟨σ', hc, h⟩ := xcV_of h
    obtain ⟨h0, as', e1, e3⟩ := xci_of hc
    exact (hE _ _ _ _ e3).tr (hk _ _ _ h)
  · obtain ⟨q, hq, h⟩ := Option.bind_eq_some_iff.mp h
    split at h
    · cases h; exact .rf
    · have h := (ite_or h).2
      cases h; exact .rf
  · obtain ⟨q, hq, h⟩ := Option.bind_eq_some_iff.mp h
    cases h; exact .rf
  · obtain ⟨q, hq, h⟩ := Option.bind_eq_some_iff.mp h
    exact hk _ _ _ h
theorem xblk_sz {sc : Nat × (Nat → Int)} {env : Nat → List xV → xS → Option xR} {j : Nat → List xV → List xV → xS → Option xR} {r : xR}
    (hE : ∀ a as σ q, env a as σ = some q → xle2 σ q.2) (hJ : ∀ b L S σ, j b L S σ = some r → xle2 σ r.2) : ∀ (es : List xI) (L S : List xV) (σ : xS), xblk sc env j es L S σ = some r → xle2 σ r.2 := by
  intro es
  induction es with
  | nil => intro L S σ h; cases h
  | cons e es ih => intro L S σ h; exact xstep_sz hE hJ ih h
theorem xrun_sz {sc : Nat × (Nat → Int)} {cd : Nat → Nat → List xI} {nl : Nat → Nat} {mk : Nat → Nat → List Bool} : ∀ (n mi b : Nat) (L S : List xV) (σ : xS) (r : xR), xrun sc cd nl mk n mi b L S σ = some r → xle2 σ r.2 := by
  intro n
  induction n with
  | zero => intro mi b L S σ r h; cases h
  | succ n ih =>
    intro mi b L S σ r h
    unfold xrun at h
    exact xblk_sz (fun a as σ q hq => ih _ _ _ _ _ _ (xen_of hq).2) (fun b L S σ hq => ih _ _ _ _ _ _ hq) _ _ _ _ h
/-- the world of a method: its cells, the script, the tables -/
def xWd (D : va_G) (cA : ClassId) (b Ls : Nat) (xs : Nat → Int32) (z : Nat) (ad : Nat → Nat) (σ : xS) (U : State) : Prop :=
  va_P D vwCl (xws ad cA σ) U.heap ∧ va_K D vwCl [(cA, .int)] U ∧ va_D (fun q : Nat => z ≤ q) (xws ad cA σ) ∧ va_X b Ls xs U U.heap ∧ b < z ∧ z ≤ U.heap.size ∧ xTb U
def xB (D : va_G) (cA : ClassId) (z : Nat) (q : xR) (ad : Nat → Nat) (t : State) : Prop := va_P D vwCl (xws ad cA q.2) t.heap ∧ va_D (fun k : Nat => z ≤ k) (xws ad cA q.2) ∧ xso q.2
def xQ (D : va_G) (cA : ClassId) (z n : Nat) (ad : Nat → Nat) (q : xR) : Array Value → State → Outcome → State → Prop := match q.1 with
  | some (.inl x) => va_Qi (fun r (ad' : Nat → Nat) => (r = Int32.ofInt x ∧ in32 x) ∧ ∀ k : Nat, k < n → ad' k = ad k) (xB D cA z q) (fun k => z ≤ k)
  | none => va_Qv (fun (ad' : Nat → Nat) => ∀ k : Nat, k < n → ad' k = ad k) (xB D cA z q) (fun k => z ≤ k)
  | _ => fun _ _ _ _ => False
def xrm (t : xT) (σ : xS) (q : xR) : Room := { frames := t.2.2.2.2.1, cells := q.2.1.length - σ.1.length, slots := xsz q.2.1 - xsz σ.1, locals := t.2.2.2.2.2 }
/-- a method's contract at these arguments, from this store -/
def xMet (l : Launch) (Ls : Nat) (xs : Nat → Int32) (a : Nat) (as : List xV) (σ : xS) (q : xR) : Prop := ∀ (t : xT), xmt[a]? = some t → ∀ (D : va_G) (cA : ClassId) (b z : Nat) (ad : Nat → Nat), xso σ → (∀ v ∈ as, xvo σ.1.length v) →
  Met l t.1 [Jvm.Cond.code t.1 t.2.1 t.2.2.1 t.2.2.2.1] (xrm t σ q) (va_Pc (as.map (xv ad b)) (xWd D cA b Ls xs z ad σ)) (xQ D cA z σ.1.length ad q) (q.2.1.length - σ.1.length) (xsz q.2.1 - xsz σ.1) (fun k => z ≤ k)
theorem xWd_blind {D : va_G} {cA : ClassId} {b Ls : Nat} {xs : Nat → Int32} {z : Nat} {ad : Nat → Nat} {σ : xS} {vs : List Value} : FrameBlind (va_Pc vs (xWd D cA b Ls xs z ad σ)) := by
  intro a U g mk h
  obtain ⟨h0, h1, h2, h3, h4, h5, h6, h7⟩ := h
  exact ⟨h0, h1, va_K.moved (u := U) (U := U.calling g mk a) (Vm.Alike.refl U.vm) h2, h3, va_X.moved (u := U) (U := U.calling g mk a) (Vm.Alike.refl U.vm) h4, h5, h6, xTb.warm (s := U) (U := U.calling g mk a) (State.WarmedH.refl U) h7⟩
theorem xWd_at {p : Program} {s : State} {m : MethodId} {c : Code} {own : String} {cc : ByteArray} {nL : Nat} {D : va_G} {cA : ClassId} {b Ls : Nat} {xs : Nat → Int32} {z : Nat} {σ : xS} (C : xC p s m c own cc nL D cA b Ls xs z) {ad : Nat → Nat} {H : Heap} {locs : List Loc} (hP : va_P D vwCl (xws ad cA σ) H) (hD : va_D (fun q : Nat => z ≤ q) (xws ad cA σ)) (hS : va_S (fun q : Nat => z ≤ q) s.heap H locs) {U : State} (hU : U.heap = H) (hW : s.WarmedH U.vm) : xWd D cA b Ls xs z ad σ U := by
  obtain ⟨hx, hb, hml, hown, hT, hK, hX, hbz, hzs, -⟩ := C
  refine ⟨by rw [hU]; exact hP, va_K.moved hW.alike hK, hD, ?_, hbz, by rw [hU]; exact Nat.le_trans hzs hS.1, hT.warm hW⟩
  rw [hU]
  exact (va_X.moved hW.alike hX).kept (hS.2.1 b (by omega) (by omega))
/-- behind a call that gives an int -/
theorem go_afterI {p : Program} {l : Launch} {e : Env} {R : Room} {s : State} {m : MethodId} {args : Array Value} {below : List Frame} {meth : Method} {c : Code} {Q : State → Prop} {nL : Nat} {D : va_G} {cA : ClassId} {b : Nat} {z n0 s0 : Nat} {ad0 : Nat → Nat} {σ : xS} {L : List xV} {pc mc ms : Nat} {q : xR} {x : Int} {T : List xV} {ad : Nat → Nat} {H : Heap} {locs : List Loc} {ls : Array Slot} {cells slots : Nat} {st0 : List Value} {av : Array Value} (hq : q.1 = some (.inl x)) (hsz : xle2 σ q.2) (hmc : mc = q.2.1.length - σ.1.length) (hms : ms = xsz q.2.1 - xsz σ.1)
    (hS : va_S (fun q : Nat => z ≤ q) s.heap H locs) (hl : xlh ls nL ad b L) (hL : ∀ v ∈ L, xvo σ.1.length v) (hT : ∀ v ∈ T, xvo σ.1.length v) (had : ∀ k : Nat, k < n0 → ad k = ad0 k) (hn : n0 ≤ σ.1.length) (hce : cells + n0 = σ.1.length) (hsl : slots + s0 = xsz σ.1)
    (hr : va_Run p l e R s m args below meth c H locs cells slots mc ms (F0 m pc ls st0) (T.map (xv ad b)) (xQ D cA z σ.1.length ad q av) (fun k => z ≤ k)) (k : xGo p l e R s m args below meth c Q nL D cA b z n0 s0 ad0 (pc + 3) L (.inl x :: T) q.2) : W p l e R s m args below meth c H locs cells slots Q (F0 m pc ls st0) := by
  have hr2 : va_Run p l e R s m args below meth c H locs cells slots mc ms (F0 m pc ls st0) (T.map (xv ad b)) (va_Qi (fun r (ad' : Nat → Nat) => (r = Int32.ofInt x ∧ in32 x) ∧ ∀ k : Nat, k < σ.1.length → ad' k = ad k) (xB D cA z q) (fun k => z ≤ k) av) (fun k => z ≤ k) := by
    unfold xQ at hr
    rw [hq] at hr
    exact hr
  refine va_calli (A0 := fun k : Nat => z ≤ k) hr2 hS (fun _ _ h => h) (fun _ h => h) fun r ad' t H1 locs1 ht hvm hp hB hz1 hk1 hS1 => ?_
  obtain ⟨⟨rfl, hx32⟩, hag⟩ := hp
  obtain ⟨hP1, hD1, hso1⟩ := hB
  rw [ht] at hP1
  have h1 := hsz.1
  have h2 := hsz.2
  have K := k ad' H1 locs1 ls (cells + mc) (slots + ms) hP1 hD1 hS1 (hl.ad hL hag) hso1 (fun v hv => xvo_mono h1 (hL v hv)) (by
    simp only [xall_cons]
    exact ⟨hx32, fun v hv => xvo_mono h1 (hT v hv)⟩) (fun k hk => (hag k (by omega)).trans (had k hk)) (by omega) (by omega) (by omega)
  rw [List.map_cons, xv_ads hT hag] at K
  exact K
theorem go_afterV {p : Program} {l : Launch} {e : Env} {R : Room} {s : State} {m : MethodId} {args : Array Value} {below : List Frame} {meth : Method} {c : Code} {Q : State → Prop} {nL : Nat} {D : va_G} {cA : ClassId} {b : Nat} {z n0 s0 : Nat} {ad0 : Nat → Nat} {σ : xS} {L : List xV} {pc mc ms : Nat} {q : xR} {T : List xV} {ad : Nat → Nat} {H : Heap} {locs : List Loc} {ls : Array Slot} {cells slots : Nat} {st0 : List Value} {av : Array Value} (hq : q.1 = none) (hsz : xle2 σ q.2) (hmc : mc = q.2.1.length - σ.1.length) (hms : ms = xsz q.2.1 - xsz σ.1)
    (hS : va_S (fun q : Nat => z ≤ q) s.heap H locs) (hl : xlh ls nL ad b L) (hL : ∀ v ∈ L, xvo σ.1.length v) (hT : ∀ v ∈ T, xvo σ.1.length v) (had : ∀ k : Nat, k < n0 → ad k = ad0 k) (hn : n0 ≤ σ.1.length) (hce : cells + n0 = σ.1.length) (hsl : slots + s0 = xsz σ.1)
    (hr : va_Run p l e R s m args below meth c H locs cells slots mc ms (F0 m pc ls st0) (T.map (xv ad b)) (xQ D cA z σ.1.length ad q av) (fun k => z ≤ k)) (k : xGo p l e R s m args below meth c Q nL D cA b z n0 s0 ad0 (pc + 3) L T q.2) : W p l e R s m args below meth c H locs cells slots Q (F0 m pc ls st0) := by
  have hr2 : va_Run p l e R s m args below meth c H locs cells slots mc ms (F0 m pc ls st0) (T.map (xv ad b)) (va_Qv (fun (ad' : Nat → Nat) => ∀ k : Nat, k < σ.1.length → ad' k = ad k) (xB D cA z q) (fun k => z ≤ k) av) (fun k => z ≤ k) := by
    unfold xQ at hr
    rw [hq] at hr
    exact hr
  refine va_callv (A0 := fun k : Nat => z ≤ k) hr2 hS (fun _ _ h => h) (fun _ h => h) fun ad' t H1 locs1 ht hvm hag hB hz1 hk1 hS1 => ?_
  obtain ⟨hP1, hD1, hso1⟩ := hB
  rw [ht] at hP1
  have h1 := hsz.1
  have h2 := hsz.2
  have K := k ad' H1 locs1 ls (cells + mc) (slots + ms) hP1 hD1 hS1 (hl.ad hL hag) hso1 (fun v hv => xvo_mono h1 (hL v hv)) (fun v hv => xvo_mono h1 (hT v hv)) (fun k hk => (hag k (by omega)).trans (had k hk)) (by omega) (by omega) (by omega)
  rw [xv_ads hT hag] at K
  exact K
theorem xtake_of : ∀ (n : Nat) (acc S : List xV) (q : List xV × List xV), xtake n acc S = some q → ∃ T, S = T ++ q.2 ∧ q.1 = T.reverse ++ acc ∧ T.length = n := by
  intro n
  induction n with
  | zero => intro acc S q h; cases h; exact ⟨[], rfl, rfl, rfl⟩
  | succ n ih =>
    intro acc S q h
    cases S with
    | nil => cases h
    | cons v S =>
      obtain ⟨T, h1, h2, h3⟩ := ih _ _ _ h
      exact ⟨v :: T, by rw [h1]; rfl, by rw [h2]; simp, by simp [h3]⟩
theorem xcw_at {a : Nat} {t : xT} (ha : a < 233) (ht : xmt[a]? = some t) : Jvm.Cond.code t.1 t.2.1 t.2.2.1 t.2.2.2.1 ∈ lw_tbl := by
  have hin : ∀ (l : List xT) (ps : List Nat), (l.map fun t => Jvm.Cond.code t.1 t.2.1 t.2.2.1 t.2.2.2.1) = ps.filterMap (fun i => lw_tbl[i]?) → t ∈ l → Jvm.Cond.code t.1 t.2.1 t.2.2.1 t.2.2.2.1 ∈ lw_tbl := by
    intro l ps h1 h2
    have h3 := List.mem_map_of_mem (f := fun t : xT => Jvm.Cond.code t.1 t.2.1 t.2.2.1 t.2.2.2.1) h2
    rw [h1] at h3
    obtain ⟨i, -, hi⟩ := List.mem_filterMap.mp h3
    exact List.mem_of_getElem? hi
  have e : xmt = xmt_0 ++ (xmt_1 ++ (xmt_2 ++ (xmt_3 ++ (xmt_4 ++ xmt_5)))) := rfl
  have hm : t ∈ xmt_0 ∨ t ∈ xmt_1 ∨ t ∈ xmt_2 ∨ t ∈ xmt_3 ∨ t ∈ xmt_4 ∨ t ∈ xmt_5.take 33 := by
    rw [e] at ht
    by_cases h0 : a < 40
    · exact Or.inl (List.mem_of_getElem? (by rwa [List.getElem?_append_left h0] at ht))
    rw [List.getElem?_append_right (Nat.not_lt.mp h0)] at ht
    by_cases h1 : a - 40 < 40
    · exact Or.inr (Or.inl (List.mem_of_getElem? ((List.getElem?_append_left h1).symm.trans ht)))
    have ht := (List.getElem?_append_right (Nat.not_lt.mp h1)).symm.trans ht
    by_cases h2 : a - 40 - 40 < 40
    · exact Or.inr (Or.inr (Or.inl (List.mem_of_getElem? ((List.getElem?_append_left h2).symm.trans ht))))
    have ht := (List.getElem?_append_right (Nat.not_lt.mp h2)).symm.trans ht
    by_cases h3 : a - 40 - 40 - 40 < 40
    · exact Or.inr (Or.inr (Or.inr (Or.inl (List.mem_of_getElem? ((List.getElem?_append_left h3).symm.trans ht)))))
    have ht := (List.getElem?_append_right (Nat.not_lt.mp h3)).symm.trans ht
    by_cases h4 : a - 40 - 40 - 40 - 40 < 40
    · exact Or.inr (Or.inr (Or.inr (Or.inr (Or.inl (List.mem_of_getElem? ((List.getElem?_append_left h4).symm.trans ht))))))
    have ht := (List.getElem?_append_right (Nat.not_lt.mp h4)).symm.trans ht
    refine Or.inr (Or.inr (Or.inr (Or.inr (Or.inr (List.mem_of_getElem? (i := a - 200) ?_)))))
    rw [List.getElem?_take, if_pos (by omega)]
    rw [show a - 200 = a - 40 - 40 - 40 - 40 - xmt_4.length by show _ = _ - 40; omega]
    exact ht
  rcases hm with h | h | h | h | h | h
  · exact hin _ _ xcw_0 h
  · exact hin _ _ xcw_1 h
  · exact hin _ _ xcw_2 h
  · exact hin _ _ xcw_3 h
  · exact hin _ _ xcw_4 h
  · exact hin _ _ xcw_5 h

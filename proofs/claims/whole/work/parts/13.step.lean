theorem call_split {n : Nat} {S as' : List xV} {h0 : Nat} {q : List xV × List xV} (hq : xtake n [] S = some q) (e : q.1 = .inr (.inr (.inl h0)) :: as') (hn : 0 < n) : S = as'.reverse ++ .inr (.inr (.inl h0)) :: q.2 ∧ as'.length = n - 1 := by
  obtain ⟨T, h1, h2, h3⟩ := xtake_of _ _ _ _ hq
  rw [List.append_nil] at h2
  have h4 : T = q.1.reverse := by rw [h2, List.reverse_reverse]
  rw [e] at h4
  subst h4
  refine ⟨by rw [h1]; simp, ?_⟩
  simp at h3
  omega
theorem call_all {n : Nat} {S : List xV} {q : List xV × List xV} (hq : xtake n [] S = some q) : S = q.1.reverse ++ q.2 ∧ q.1.length = n := by
  obtain ⟨T, h1, h2, h3⟩ := xtake_of _ _ _ _ hq
  rw [List.append_nil] at h2
  have h4 : T = q.1.reverse := by rw [h2, List.reverse_reverse]
  exact ⟨by rw [h1, ← h4], by rw [h2, List.length_reverse]; exact h3⟩
theorem xstep_go {p : Program} {l : Launch} {e : Env} {R : Room} {s : State} {m : MethodId} {args : Array Value} {below : List Frame} {meth : Method} {c : Code} {Q : State → Prop} {own : String} {cc : ByteArray} {nL : Nat} {D : va_G} {cA : ClassId} {b Ls : Nat} {xs : Nat → Int32} {z n0 s0 : Nat} {ad0 : Nat → Nat} {rf rl : Nat} {ret : Option FieldType} {ini : Bool} {pb : Nat → Nat} {env : Nat → List xV → xS → Option xR} {j : Nat → List xV → List xV → xS → Option xR} {ei : xI} {L S : List xV} {σ : xS} {k : List xV → List xV → xS → Option xR} {r : xR} (C : xC p s m c own cc nL D cA b Ls xs z) (hck : xck own cc pb rf rl nL ret ini ei = true) (hini : ini = true → meth.name = "<init>") (hR : rf ≤ R.frames ∧ rl ≤ R.locals)
    (hj : ∀ b' L' S' σ', j b' L' S' σ' = some r → xGo p l e R s m args below meth c Q nL D cA b z n0 s0 ad0 (pb b') L' S' σ') (hk : ∀ L' S' σ', k L' S' σ' = some r → xGo p l e R s m args below meth c Q nL D cA b z n0 s0 ad0 (ei.1 + ei.2.1) L' S' σ') (hsz : ∀ L' S' σ', k L' S' σ' = some r → xle2 σ' r.2) (hE : ∀ a as σ q, a < 233 → env a as σ = some q → xMet l Ls xs a as σ q ∧ xle2 σ q.2)
    (hcap : r.2.1.length ≤ R.cells + n0 ∧ xsz r.2.1 ≤ R.slots + s0) (hrI : xRetI p l e R s m args below meth c Q cc ret D cA z n0 s0 ad0 r) (hrV : xRetV p l e R s m args below meth c Q cc ret D cA z n0 s0 ad0 r) (h : xstep (Ls, fun i => (xs i).toInt) env j ei L S σ k = some r) : xGo p l e R s m args below meth c Q nL D cA b z n0 s0 ad0 ei.1 L S σ := by
  obtain ⟨pc, len, o, w, a, c', zz, v, ts⟩ := ei
  have Cx := C
  unfold xstep at h
  dsimp only at h hk ⊢
  split at h
  · -- goto
    unfold xck at hck
    simp only [Bool.and_eq_true, Bool.or_eq_true, decide_eq_true_eq] at hck
    have hdg := hck.1.resolve_left (by omega)
    have hl := hck.2
    subst hl
    exact go_goto Cx hdg (hj _ _ _ _ h)
  · -- fall
    unfold xck at hck
    simp only [Bool.and_eq_true, Bool.or_eq_true, decide_eq_true_eq] at hck
    have h2 := hj _ _ _ _ h
    rw [hck.2.2] at h2
    exact h2
  · -- two ints compared
    unfold xck at hck
    simp only [Bool.and_eq_true, Bool.or_eq_true, decide_eq_true_eq] at hck
    have hdg := hck.1.resolve_left (by omega)
    have hl := hck.2
    subst hl
    obtain ⟨q, hq, h⟩ := Option.bind_eq_some_iff.mp h
    rw [pII_of hq]
    exact go_if Cx hdg h (fun g => hj _ _ _ _ g) (fun g => hk _ _ _ g)
  · unfold xck at hck
    simp only [Bool.and_eq_true, Bool.or_eq_true, decide_eq_true_eq] at hck
    have hdg := hck.1.resolve_left (by omega)
    have hl := hck.2
    subst hl
    obtain ⟨q, hq, h⟩ := Option.bind_eq_some_iff.mp h
    rw [pI_of hq]
    exact go_if0 Cx hdg h (fun g => hj _ _ _ _ g) (fun g => hk _ _ _ g)
  · unfold xck at hck
    simp only [Bool.and_eq_true, Bool.or_eq_true, decide_eq_true_eq] at hck
    have hdg := hck.1.resolve_left (by omega)
    obtain ⟨q, hq, h⟩ := Option.bind_eq_some_iff.mp h
    rw [pI_of hq]
    exact go_table Cx hdg h (fun b' g => hj _ _ _ _ g)
  · -- 11
    unfold xck at hck
    simp only [Bool.and_eq_true, Bool.or_eq_true, decide_eq_true_eq] at hck
    obtain ⟨hdg, rfl, -⟩ := hck
    have hdg := hdg.resolve_left (by omega)
    obtain ⟨q, hq, h⟩ := Option.bind_eq_some_iff.mp h
    obtain ⟨hc, h⟩ := ite_or h
    rw [pII_of hq]
    exact go_idiv Cx hdg hc (hk _ _ _ h)
  · -- 12
    unfold xck at hck
    simp only [Bool.and_eq_true, Bool.or_eq_true, decide_eq_true_eq] at hck
    obtain ⟨hdg, rfl, -⟩ := hck
    have hdg := hdg.resolve_left (by omega)
    obtain ⟨q, hq, h⟩ := Option.bind_eq_some_iff.mp h
    obtain ⟨hc, h⟩ := ite_or h
    rw [pII_of hq]
    exact go_irem Cx hdg hc (hk _ _ _ h)
  · -- 13
    unfold xck at hck
    simp only [Bool.and_eq_true, Bool.or_eq_true, decide_eq_true_eq] at hck
    obtain ⟨hdg, rfl, -⟩ := hck
    have hdg := hdg.resolve_left (by omega)
    obtain ⟨q, hq, h⟩ := Option.bind_eq_some_iff.mp h
    obtain ⟨hc, h⟩ := ite_or h
    rw [pII_of hq, hc]
    exact go_iushr Cx hdg (hk _ _ _ h)
  · -- 14
    unfold xck at hck
    simp only [Bool.and_eq_true, Bool.or_eq_true, decide_eq_true_eq] at hck
    obtain ⟨hdg, rfl, -⟩ := hck
    have hdg := hdg.resolve_left (by omega)
    obtain ⟨q, hq, h⟩ := Option.bind_eq_some_iff.mp h
    obtain ⟨hc, h⟩ := ite_or h
    rw [pII_of hq, hc]
    exact go_iand Cx hdg (hk _ _ _ h)
  · -- 22
    unfold xck at hck
    simp only [Bool.and_eq_true, Bool.or_eq_true, decide_eq_true_eq] at hck
    obtain ⟨hdg, rfl, -⟩ := hck
    have hdg := hdg.resolve_left (by omega)
    obtain ⟨q, hq, h⟩ := Option.bind_eq_some_iff.mp h
    obtain ⟨hc, h⟩ := ite_or h
    rw [pLL_of hq]
    exact go_lrem Cx hdg hc (hk _ _ _ h)
  · -- 32 load
    unfold xck at hck
    simp only [Bool.and_eq_true, Bool.or_eq_true, decide_eq_true_eq] at hck
    have hdg := hck.1.resolve_left (by omega)
    have hl := hck.2.1
    subst hl
    obtain ⟨q, hq, h⟩ := Option.bind_eq_some_iff.mp h
    obtain ⟨n, hn, h⟩ := Option.bind_eq_some_iff.mp h
    obtain ⟨g2, g3⟩ := ite_or h
    obtain ⟨e1, e2⟩ := pIA_of hq
    rw [e1]
    rcases e2 with ⟨r0, e2⟩ | e2
    · rw [e2] at hn g3 ⊢
      exact go_iald Cx hdg (xln_of hn) g2 (hk _ _ _ g3)
    · rw [e2] at hn g3 ⊢
      have e3 : Ls = n := Option.some.inj hn
      rw [← e3] at g2
      exact go_sald Cx hdg g2 (hk _ _ _ g3)
  · -- 33 store
    unfold xck at hck
    simp only [Bool.and_eq_true, Bool.or_eq_true, decide_eq_true_eq] at hck
    have hdg := hck.1.resolve_left (by omega)
    have hl := hck.2.1
    subst hl
    obtain ⟨q1, hq1, h⟩ := Option.bind_eq_some_iff.mp h
    obtain ⟨q2, hq2, h⟩ := Option.bind_eq_some_iff.mp h
    obtain ⟨n, hn, h⟩ := Option.bind_eq_some_iff.mp h
    obtain ⟨g2, h⟩ := ite_or h
    rw [pI_of hq1, pIR_of hq2]
    exact go_iast Cx hdg (xln_of hn) g2 (hk _ _ _ h)
  · -- 36
    unfold xck at hck
    simp only [Bool.and_eq_true, Bool.or_eq_true, decide_eq_true_eq] at hck
    have hdg := hck.1.resolve_left (by omega)
    obtain ⟨⟨⟨hl, hf⟩, hfi⟩, hw⟩ := hck.2
    subst hl
    obtain ⟨q1, hq1, h⟩ := Option.bind_eq_some_iff.mp h
    obtain ⟨u, hu, h⟩ := Option.bind_eq_some_iff.mp h
    obtain ⟨ks, g1, g2⟩ := xpi_of hu
    rw [pIR_of hq1]
    split at h
    · exact go_putI Cx hdg hf hfi hw g1 g2 (fun e => absurd e (by decide)) (hk _ _ _ h)
    · obtain ⟨g3, h⟩ := ite_or h
      exact go_putI Cx hdg hf hfi hw g1 g2 (fun _ => g3) (hk _ _ _ h)
  · -- 44 arraycopy
    unfold xck at hck
    simp only [Bool.and_eq_true, Bool.or_eq_true, decide_eq_true_eq] at hck
    have hdg := hck.1.resolve_left (by omega)
    obtain ⟨⟨⟨hl, hw⟩, h1⟩, h2⟩ := hck.2
    subst hl
    obtain ⟨q1, hq1, h⟩ := Option.bind_eq_some_iff.mp h
    obtain ⟨q2, hq2, h⟩ := Option.bind_eq_some_iff.mp h
    obtain ⟨q3, hq3, h⟩ := Option.bind_eq_some_iff.mp h
    obtain ⟨S', hs, h⟩ := Option.bind_eq_some_iff.mp h
    obtain ⟨la, hla, h⟩ := Option.bind_eq_some_iff.mp h
    obtain ⟨ld, hld, h⟩ := Option.bind_eq_some_iff.mp h
    obtain ⟨g3, h⟩ := ite_or h
    obtain ⟨rfl, h8⟩ := st8_of hs
    rw [pI_of hq1, pIR_of hq2, pIR_of hq3]
    exact go_acopy Cx hdg hw ⟨Nat.le_trans h1 hR.1, Nat.le_trans h2 hR.2⟩ h8 (xln_of hla) (xln_of hld) g3 (hk _ _ _ h)
  · -- 31 length
    unfold xck at hck
    simp only [Bool.and_eq_true, Bool.or_eq_true, decide_eq_true_eq] at hck
    have hdg := hck.1.resolve_left (by omega)
    have hl := hck.2.1
    subst hl
    obtain ⟨q, hq, h⟩ := Option.bind_eq_some_iff.mp h
    unfold xmemo at hq
    obtain ⟨q1, hq1, hq⟩ := Option.bind_eq_some_iff.mp hq
    obtain ⟨n, hn, hq⟩ := Option.bind_eq_some_iff.mp hq
    obtain ⟨e1, e2⟩ := pA_of hq1
    rw [e1]
    rcases e2 with ⟨r0, e2⟩ | e2
    · rw [e2] at hn ⊢
      cases hq
      exact go_alen Cx hdg (xln_of hn) (hk _ _ _ h)
    · rw [e2] at hn ⊢
      cases hn
      cases hq
      exact go_slen Cx hdg (hk _ _ _ h)
  · -- 34
    unfold xck at hck
    simp only [Bool.and_eq_true, Bool.or_eq_true, decide_eq_true_eq] at hck
    have hdg := hck.1.resolve_left (by omega)
    obtain ⟨hl, hf⟩ := hck.2
    subst hl
    obtain ⟨q, hq, h⟩ := Option.bind_eq_some_iff.mp h
    unfold xmemo at hq
    obtain ⟨q1, hq1, hq⟩ := Option.bind_eq_some_iff.mp hq
    obtain ⟨x, hx, hq⟩ := Option.bind_eq_some_iff.mp hq
    obtain ⟨ks, g1, g2, rfl⟩ := xgi_of hx
    cases hq
    rw [pR_of hq1]
    exact go_getf (v := .inl (σ.2 q1.1 c')) Cx hdg hf g1 g2 (fun ad => rfl) (fun hso => hso.1 _ _) (hk _ _ _ h)
  · -- 35
    unfold xck at hck
    simp only [Bool.and_eq_true, Bool.or_eq_true, decide_eq_true_eq] at hck
    have hdg := hck.1.resolve_left (by omega)
    obtain ⟨hl, hf⟩ := hck.2
    subst hl
    obtain ⟨q, hq, h⟩ := Option.bind_eq_some_iff.mp h
    unfold xmemo at hq
    obtain ⟨q1, hq1, hq⟩ := Option.bind_eq_some_iff.mp hq
    obtain ⟨x, hx, hq⟩ := Option.bind_eq_some_iff.mp hq
    obtain ⟨ks, g1, g2⟩ := xgr_of hx
    cases hq
    rw [pR_of hq1]
    exact go_getf (v := .inr (.inr (.inl x))) Cx hdg hf g1 g2 (fun ad => rfl) (fun hso => hso.2.2 _ _ _ g1 _ (List.mem_of_getElem? g2)) (hk _ _ _ h)
  · -- 37
    unfold xck at hck
    simp only [Bool.and_eq_true, Bool.or_eq_true, decide_eq_true_eq] at hck
    have hdg := hck.1.resolve_left (by omega)
    obtain ⟨⟨⟨⟨⟨hl, hf⟩, hfi⟩, hrf⟩, how⟩, hin⟩ := hck.2
    subst hl
    obtain ⟨q, hq, h⟩ := Option.bind_eq_some_iff.mp h
    unfold xmemo at hq
    obtain ⟨q1, hq1, hq⟩ := Option.bind_eq_some_iff.mp hq
    obtain ⟨σ', hs, hq⟩ := Option.bind_eq_some_iff.mp hq
    obtain ⟨ks, o2, g1, g2, rfl⟩ := xpr_of hs
    cases hq
    rw [pRR_of hq1]
    exact go_putR Cx (hini hin) hdg hf hfi hrf how g1 g2 (hk _ _ _ h)
  · -- 38 new
    unfold xck at hck
    simp only [Bool.and_eq_true, Bool.or_eq_true, decide_eq_true_eq] at hck
    have hdg := hck.1.resolve_left (by omega)
    obtain ⟨hl, hf⟩ := hck.2
    subst hl
    obtain ⟨q, hq, h⟩ := Option.bind_eq_some_iff.mp h
    cases hq
    have g := hsz _ _ _ h
    have g1 := g.1
    have g2 := g.2
    have e1 : (xnw σ a).1.length = σ.1.length + 1 := by unfold xnw; simp
    have e2 : xsz (xnw σ a).1 = xsz σ.1 + (xbk a).length := xsz_push _ _
    dsimp only at g1 g2
    exact go_new Cx hdg hf (by omega) (by omega) (hk _ _ _ h)
  · -- 39 newarray
    unfold xck at hck
    simp only [Bool.and_eq_true, Bool.or_eq_true, decide_eq_true_eq] at hck
    have hdg := hck.1.resolve_left (by omega)
    have hl := hck.2
    subst hl
    obtain ⟨q, hq, h⟩ := Option.bind_eq_some_iff.mp h
    unfold xmemo at hq
    obtain ⟨q1, hq1, hq⟩ := Option.bind_eq_some_iff.mp hq
    obtain ⟨σ', hs, hq⟩ := Option.bind_eq_some_iff.mp hq
    obtain ⟨g0, rfl⟩ := xna_of hs
    cases hq
    have g := hsz _ _ _ h
    have g1 := g.1
    have g2 := g.2
    have e1 : (xnas σ q1.1.toNat).1.length = σ.1.length + 1 := by unfold xnas; simp
    have e2 : xsz (xnas σ q1.1.toNat).1 = xsz σ.1 + q1.1.toNat := xsz_push _ _
    dsimp only at g1 g2
    rw [pI_of hq1]
    exact go_newa Cx hdg g0 (by omega) (by omega) (hk _ _ _ h)
  · -- 43 Object()
    unfold xck at hck
    simp only [Bool.and_eq_true, Bool.or_eq_true, decide_eq_true_eq] at hck
    have hdg := hck.1.resolve_left (by omega)
    obtain ⟨⟨⟨hl, hw⟩, h1⟩, h2⟩ := hck.2
    subst hl
    obtain ⟨q, hq, h⟩ := Option.bind_eq_some_iff.mp h
    unfold xmemo at hq
    obtain ⟨q1, hq1, hq⟩ := Option.bind_eq_some_iff.mp hq
    obtain ⟨S', hs, hq⟩ := Option.bind_eq_some_iff.mp hq
    obtain ⟨rfl, h8⟩ := st8_of hs
    cases hq
    rw [pR_of hq1]
    exact go_oinit Cx hdg hw ⟨Nat.le_trans h1 hR.1, Nat.le_trans h2 hR.2⟩ h8 (hk _ _ _ h)
  · -- 45 min
    unfold xck at hck
    simp only [Bool.and_eq_true, Bool.or_eq_true, decide_eq_true_eq] at hck
    have hdg := hck.1.resolve_left (by omega)
    obtain ⟨⟨⟨hl, hw⟩, h1⟩, h2⟩ := hck.2
    subst hl
    obtain ⟨q, hq, h⟩ := Option.bind_eq_some_iff.mp h
    unfold xmemo at hq
    obtain ⟨q1, hq1, hq⟩ := Option.bind_eq_some_iff.mp hq
    obtain ⟨S', hs, hq⟩ := Option.bind_eq_some_iff.mp hq
    obtain ⟨rfl, h8⟩ := st8_of hs
    cases hq
    have g := hsz _ _ _ h
    dsimp only at g
    rw [pII_of hq1]
    exact go_mmin Cx hdg hw ⟨Nat.le_trans h1 hR.1, Nat.le_trans h2 hR.2⟩ h8 ⟨Nat.le_trans g.1 hcap.1, Nat.le_trans g.2 hcap.2⟩ (hk _ _ _ h)
  · -- 40 virtual, int
    unfold xck at hck
    simp only [Bool.and_eq_true, Bool.or_eq_true, decide_eq_true_eq] at hck
    have hdg := hck.1.resolve_left (by omega)
    obtain ⟨⟨⟨⟨⟨hl, hc0⟩, hm⟩, hi⟩, hse⟩, hcl⟩ := hck.2
    subst hl
    obtain ⟨q, hq, h⟩ := Option.bind_eq_some_iff.mp h
    obtain ⟨S', hs, h⟩ := Option.bind_eq_some_iff.mp h
    obtain ⟨rfl, h8⟩ := st8_of hs
    obtain ⟨x, σ', hc, h⟩ := xcI_of h
    obtain ⟨h0, as', e1, e2, e3⟩ := xcv_of hc
    obtain ⟨e4, e5⟩ := call_split hq e1 hc0
    obtain ⟨t0, -, ha, -⟩ := xmck_of hm
    obtain ⟨hM, hs2⟩ := hE _ _ _ _ ha e3
    have g := hsz _ _ _ h
    rw [e1] at hM
    rw [e4]
    intro ad H locs ls cells slots hP hD hS hl hso hL hSo had hn hce hsl
    refine go_afterI (q := (some (.inl x), σ')) rfl hs2 rfl rfl hS hl hL (fun v hv => hSo v (by simp [hv])) had hn hce hsl (run_V (n0 := n0) (s0 := s0) Cx hR hdg hm hi hse hcl e5 e2 hM h8 ⟨Nat.le_trans g.1 hcap.1, Nat.le_trans g.2 hcap.2⟩ hs2 hP hD hS hl.1 hso hSo hce hsl) (hk _ _ _ h)
  · -- 41 virtual, void
    unfold xck at hck
    simp only [Bool.and_eq_true, Bool.or_eq_true, decide_eq_true_eq] at hck
    have hdg := hck.1.resolve_left (by omega)
    obtain ⟨⟨⟨⟨⟨hl, hc0⟩, hm⟩, hi⟩, hse⟩, hcl⟩ := hck.2
    subst hl
    obtain ⟨q, hq, h⟩ := Option.bind_eq_some_iff.mp h
    obtain ⟨S', hs, h⟩ := Option.bind_eq_some_iff.mp h
    obtain ⟨rfl, h8⟩ := st8_of hs
    obtain ⟨σ', hc, h⟩ := xcV_of h
    obtain ⟨h0, as', e1, e2, e3⟩ := xcv_of hc
    obtain ⟨e4, e5⟩ := call_split hq e1 hc0
    obtain ⟨t0, -, ha, -⟩ := xmck_of hm
    obtain ⟨hM, hs2⟩ := hE _ _ _ _ ha e3
    have g := hsz _ _ _ h
    rw [e1] at hM
    rw [e4]
    intro ad H locs ls cells slots hP hD hS hl hso hL hSo had hn hce hsl
    refine go_afterV (q := (none, σ')) rfl hs2 rfl rfl hS hl hL (fun v hv => hSo v (by simp [hv])) had hn hce hsl (run_V (n0 := n0) (s0 := s0) Cx hR hdg hm hi hse hcl e5 e2 hM h8 ⟨Nat.le_trans g.1 hcap.1, Nat.le_trans g.2 hcap.2⟩ hs2 hP hD hS hl.1 hso hSo hce hsl) (hk _ _ _ h)
  · -- 42 static, int
    unfold xck at hck
    simp only [Bool.and_eq_true, Bool.or_eq_true, decide_eq_true_eq] at hck
    have hdg := hck.1.resolve_left (by omega)
    obtain ⟨⟨hl, hm⟩, hi⟩ := hck.2
    subst hl
    obtain ⟨q, hq, h⟩ := Option.bind_eq_some_iff.mp h
    obtain ⟨S', hs, h⟩ := Option.bind_eq_some_iff.mp h
    obtain ⟨rfl, h8⟩ := st8_of hs
    obtain ⟨x, σ', e3, h⟩ := xcI_of h
    obtain ⟨e4, e5⟩ := call_all hq
    obtain ⟨t0, -, ha, -⟩ := xmck_of hm
    obtain ⟨hM, hs2⟩ := hE _ _ _ _ ha e3
    have g := hsz _ _ _ h
    rw [e4]
    intro ad H locs ls cells slots hP hD hS hl hso hL hSo had hn hce hsl
    refine go_afterI (q := (some (.inl x), σ')) rfl hs2 rfl rfl hS hl hL (fun v hv => hSo v (by simp [hv])) had hn hce hsl (run_S (n0 := n0) (s0 := s0) Cx hR hdg hm hi e5 hM h8 ⟨Nat.le_trans g.1 hcap.1, Nat.le_trans g.2 hcap.2⟩ hs2 hP hD hS hl.1 hso hSo hce hsl) (hk _ _ _ h)
  · -- 48 constructor
    unfold xck at hck
    simp only [Bool.and_eq_true, Bool.or_eq_true, decide_eq_true_eq] at hck
    have hdg := hck.1.resolve_left (by omega)
    obtain ⟨⟨⟨⟨⟨hl, hc0⟩, hm⟩, hi⟩, hin⟩, hrt⟩ := hck.2
    subst hl
    obtain ⟨q, hq, h⟩ := Option.bind_eq_some_iff.mp h
    obtain ⟨S', hs, h⟩ := Option.bind_eq_some_iff.mp h
    obtain ⟨rfl, h8⟩ := st8_of hs
    obtain ⟨σ', hc, h⟩ := xcV_of h
    obtain ⟨h0, as', e1, e3⟩ := xci_of hc
    obtain ⟨e4, e5⟩ := call_split hq e1 hc0
    obtain ⟨t0, -, ha, -⟩ := xmck_of hm
    obtain ⟨hM, hs2⟩ := hE _ _ _ _ ha e3
    have g := hsz _ _ _ h
    rw [e1] at hM
    rw [e4]
    intro ad H locs ls cells slots hP hD hS hl hso hL hSo had hn hce hsl
    refine go_afterV (q := (none, σ')) rfl hs2 rfl rfl hS hl hL (fun v hv => hSo v (by simp [hv])) had hn hce hsl (run_I (n0 := n0) (s0 := s0) Cx hR hdg hm hi hin hrt e5 hM h8 ⟨Nat.le_trans g.1 hcap.1, Nat.le_trans g.2 hcap.2⟩ hs2 hP hD hS hl.1 hso hSo hce hsl) (hk _ _ _ h)
  · -- 46 ireturn
    unfold xck at hck
    simp only [Bool.and_eq_true, Bool.or_eq_true, decide_eq_true_eq] at hck
    have hdg := hck.1.resolve_left (by omega)
    obtain ⟨hl, ha⟩ := hck.2
    subst hl
    obtain ⟨x, hx, h⟩ := Option.bind_eq_some_iff.mp h
    rw [pI1_of hx]
    intro ad H locs ls cells slots hP hD hS hl hso hL hSo had hn hce hsl
    have hx32 : in32 x := hSo (.inl x) (by simp)
    split at h
    · cases h
      refine hrI x σ ad H locs ls cells slots pc rfl hdg ?_ hx32 hP hD hS hso had hn hce hsl
      rcases ha with ⟨h1, h2⟩ | ⟨h1, h2⟩
      · exact absurd h1 (by decide)
      · exact Or.inr h2
    · rename_i ha0
      obtain ⟨hb, h⟩ := ite_or h
      cases h
      refine hrI x σ ad H locs ls cells slots pc rfl hdg ?_ hx32 hP hD hS hso had hn hce hsl
      rcases ha with ⟨h1, h2⟩ | ⟨h1, h2⟩
      · exact Or.inl ⟨h2, hb⟩
      · exact Or.inr h2
  · -- 47 return
    unfold xck at hck
    simp only [Bool.and_eq_true, Bool.or_eq_true, decide_eq_true_eq] at hck
    have hdg := hck.1.resolve_left (by omega)
    obtain ⟨hl, ha⟩ := hck.2
    subst hl
    obtain ⟨x, hx, h⟩ := Option.bind_eq_some_iff.mp h
    cases h
    rw [p0_of hx]
    intro ad H locs ls cells slots hP hD hS hl hso hL hSo had hn hce hsl
    exact hrV σ ad H locs ls cells slots pc rfl hdg ha hP hD hS hso had hn hce hsl
  · -- pure
    obtain ⟨q, hq, h⟩ := Option.bind_eq_some_iff.mp h
    have ho : o ≤ 25 := by
      unfold xpure at hq
      split at hq <;> first | omega | (cases hq; done)
    exact xpure_go Cx ho hck hq (hk _ _ _ h)
theorem xblk_go {p : Program} {l : Launch} {e : Env} {R : Room} {s : State} {m : MethodId} {args : Array Value} {below : List Frame} {meth : Method} {c : Code} {Q : State → Prop} {own : String} {cc : ByteArray} {nL : Nat} {D : va_G} {cA : ClassId} {b Ls : Nat} {xs : Nat → Int32} {z n0 s0 : Nat} {ad0 : Nat → Nat} {rf rl : Nat} {ret : Option FieldType} {ini : Bool} {pb : Nat → Nat} {env : Nat → List xV → xS → Option xR} {j : Nat → List xV → List xV → xS → Option xR} {r : xR} (C : xC p s m c own cc nL D cA b Ls xs z) (hini : ini = true → meth.name = "<init>") (hR : rf ≤ R.frames ∧ rl ≤ R.locals)
    (hj : ∀ b' L' S' σ', j b' L' S' σ' = some r → xGo p l e R s m args below meth c Q nL D cA b z n0 s0 ad0 (pb b') L' S' σ') (hjsz : ∀ b' L' S' σ', j b' L' S' σ' = some r → xle2 σ' r.2) (hEs : ∀ a as σ q, env a as σ = some q → xle2 σ q.2) (hE : ∀ a as σ q, a < 233 → env a as σ = some q → xMet l Ls xs a as σ q)
    (hcap : r.2.1.length ≤ R.cells + n0 ∧ xsz r.2.1 ≤ R.slots + s0) (hrI : xRetI p l e R s m args below meth c Q cc ret D cA z n0 s0 ad0 r) (hrV : xRetV p l e R s m args below meth c Q cc ret D cA z n0 s0 ad0 r) : ∀ (es : List xI) (pc : Nat), xchain own cc pb rf rl nL ret ini pc es = true → ∀ (L S : List xV) (σ : xS), xblk (Ls, fun i => (xs i).toInt) env j es L S σ = some r → xGo p l e R s m args below meth c Q nL D cA b z n0 s0 ad0 pc L S σ := by
  intro es
  induction es with
  | nil => intro pc hc L S σ h; cases h
  | cons ei es ih =>
    intro pc hc L S σ h
    unfold xchain at hc
    simp only [Bool.and_eq_true, decide_eq_true_eq] at hc
    obtain ⟨⟨h1, h2⟩, h3⟩ := hc
    subst h1
    exact xstep_go C h2 hini hR hj (fun L' S' σ' g => ih _ h3 L' S' σ' g) (fun L' S' σ' g => xblk_sz hEs hjsz es L' S' σ' g) (fun a as σ q g1 g2 => ⟨hE a as σ q g1 g2, hEs a as σ q g2⟩) hcap hrI hrV h

/-! a change, a unit comes to a slot -/
def oB (ρ : Int → Int → Int) (m : Nat → Int) : Prop := (∀ s f : Int, 0 ≤ s → s ≤ m 0 → 0 ≤ f → f < 8 → ychain (ρ f) (mkL m (21004 + (320 * s + 40 * f)) (m (12 + 8 * s + f).toNat))) ∧
  ∀ c k : Int, 0 ≤ c → c < m 7 → 0 ≤ k → k < m (41904 + c).toNat → yOk ρ m (4 * c + k)
/-- what a change's coming needs: changes, edits, states -/
def yJ (C : xM) (m : Nat → Int) : Prop := yA C m ∧ yE C m ∧ yB C m
theorem yJ_W {C C' : xM} {m m' : Nat → Int} (h : yJ C m) (em : ∀ i : Nat, ¬ aW i → m' i = m i) (eC' : ∀ k i : Nat, ¬ dW k i → C' k i = C k i) : yJ C' m' := by
  obtain ⟨a4, a5, a6⟩ := h
  have n7 : 0 ≤ m 7 ∧ m 7 ≤ 60 := ⟨a4.1, a4.2.1⟩
  have n0 : 0 ≤ m 0 ∧ m 0 ≤ 60 ∧ C 2 3 = m 0 := a6.1
  have n1 : 0 ≤ m 1 ∧ m 1 ≤ 1152 ∧ C 2 4 = m 1 := a6.2.1
  have e : ∀ i : Nat, ¬ ((500 ≤ i ∧ i < 524) ∨ (20044 ≤ i ∧ i < 21004) ∨ (40524 ≤ i ∧ i < 41484)) → m' i = m i := em
  have eC : ∀ k i : Nat, ¬ ((k = 4 ∧ 488 ≤ i) ∨ (k = 3 ∧ 11712 ≤ i)) → C' k i = C k i := eC'
  exact ⟨yA_fr a4 (fun k i hk => eC k i (by unfold dA at hk; omega)) (fun i hi => e i (by unfold aA at hi; omega)), yE_fr a5 a4 (fun k i hk => eC k i (by unfold dE at hk; omega)) (fun i _ _ => eC 5 i (by omega)) (by rw [e 1 (by omega)]; exact Int.le_refl _) (fun i hi => e i (by unfold aE at hi; omega)),
    yB_fr a6 ⟨eC 2 3 (by omega), eC 2 4 (by omega)⟩ ⟨e 0 (by omega), e 1 (by omega)⟩ (fun s _ _ k i hk => eC k i (by unfold dS at hk; omega)) (fun i _ _ => eC 5 i (by omega)) (fun s _ _ i hi => e i (by unfold aS at hi; omega))⟩
theorem oB_W {ρ : Int → Int → Int} {C : xM} {m m' : Nat → Int} (ho : oB ρ m) (h : yJ C m) (em : ∀ i : Nat, ¬ aW i → m' i = m i) : oB ρ m' := by
  obtain ⟨a4, a5, a6⟩ := h
  have n0 : 0 ≤ m 0 ∧ m 0 ≤ 60 ∧ C 2 3 = m 0 := a6.1
  have h7 := a4.2.1
  refine ⟨fun s f s0 s1 f0 f1 => ?_, fun c k c0 c1 k0 k1 => ?_⟩
  · rw [em 0 (by unfold aW; omega)] at s1
    have hF := a6.2.2 s f s0 s1 f0 f1
    rw [em (12 + 8 * s + f).toNat (by unfold aW; omega), mkL_fr (m := m) (fun k k0 k1 => em _ (by have := hF.2.2.1; unfold aW; omega))]
    exact ho.1 s f s0 s1 f0 f1
  · rw [em 7 (by unfold aW; omega)] at c1
    rw [em (41904 + c).toNat (by unfold aW; omega)] at k1
    have he := ((a5 c c0 c1).1 k k0 k1).2.1
    have hne := (a4.2.2.2 c c0 c1).2.1
    exact yOk_fr (ho.2 c k c0 c1 k0 k1) (by omega) (by omega) (by omega) (fun i hi => em i (by unfold aEe at hi; unfold aW; omega))
theorem fitE_fr {m m' : Nat → Int} {s e f : Int} (hf : m (42084 + e).toNat = f) (e0 : 0 ≤ e) (s0 : 0 ≤ s) (s1 : s < 64) (f0 : 0 ≤ f) (f1 : f < 8) (n24 : m (12 + 8 * s + f).toNat ≤ 24) (hm : ∀ i : Nat, aSf s f i → m' i = m i) (hE : ∀ i : Nat, 41484 ≤ i → m' i = m i) : fitE m' s e = fitE m s e := by
  funext p
  unfold fitE fitG
  rw [hE (42084 + e).toNat (by omega), hE (42804 + e).toNat (by omega), hE (43044 + e).toNat (by omega), hE (42324 + e).toNat (by omega), hE (42564 + e).toNat (by omega), hf, hm (12 + 8 * s + f).toNat (by unfold aSf; omega)]
  have hk : ∀ i : Int, mkS m' s f i = mkS m s f i := fun i => by
    unfold mkS
    rw [hm (12 + 8 * s + f).toNat (by unfold aSf; omega)]
    by_cases h : 0 ≤ i ∧ i < m (12 + 8 * s + f).toNat
    · rw [if_pos h, if_pos h, hm _ (by unfold aSf; omega)]
    · rw [if_neg h, if_neg h]
  simp only [hk]
  refine propext ⟨fun h => ⟨h.1, h.2.1, h.2.2.1, h.2.2.2.1, h.2.2.2.2.1, fun i hi => ?_⟩, fun h => ⟨h.1, h.2.1, h.2.2.1, h.2.2.2.1, h.2.2.2.2.1, fun i hi => ?_⟩⟩
  · rw [h.2.2.2.2.2 i hi, hE _ (by omega)]
  · rw [h.2.2.2.2.2 i hi, hE _ (by omega)]
noncomputable def apX (w : Nat → Int) (s e : Int) : Nat → Int := apM w s (w (42084 + e).toNat) (plc (fitE w s e)) (w (42324 + e).toNat) (w (42564 + e).toNat) (w (12 + 8 * s + w (42084 + e).toNat).toNat) e
noncomputable def apI (m : Nat → Int) (s c : Int) : Nat → Nat → Int
  | 0 => m
  | k + 1 => apX (apI m s c k) s (4 * c + (k : Int))
section
variable {sc : Nat × (Nat → Int)} {C : xM} {m : Nat → Int} {ρ : Int → Int → Int} {s s' : Int}
theorem aS_W {i : Nat} (h : s' = 61 ∨ s' = 62 ∨ s' = 63) (hi : ¬ aW i) : ¬ aS s' i := fun x => hi (by unfold aS at x; unfold aW; omega)
theorem dS_W {k i : Nat} (h : s = 61 ∨ s = 62) (hi : ¬ dW k i) : ¬ dS s k i := fun x => hi (by unfold dS at x; unfold dW; omega)
theorem comes (h : yJ C m) (ho : oB ρ m) (hS : ySl C m s s') (hρ : oSl ρ m s') (hs : s = 61 ∨ s = 62) (hs' : s' = 61 ∨ s' = 63) {c : Int} (c0 : 0 ≤ c) (c1 : c < m 7) : ∃ C' : xM, EV sc 47 [vR 6, vI c, vR 2, vI s] (SK, C) = some (some (vI (bI (fitC m s' c))), (SK, C')) ∧ (∀ k i : Nat, ¬ dS s k i → C' k i = C k i) ∧
    (fitC m s' c → ∃ m' : Nat → Int, m' = apI m s' c (m (41904 + c).toNat).toNat ∧ rS m (fun ν => EV sc 191 [vR 139, vI c, vI s'] (SK, ν)) (fun ν => some (some (vI 1), (SK, ν))) m' ∧ (∀ i : Nat, ¬ aS s' i → m' i = m i) ∧ ySl C' m' s s' ∧ oSl ρ m' s') ∧ (¬ fitC m s' c → ∀ ν : xM, ν 140 = m → EV sc 191 [vR 139, vI c, vI s'] (SK, ν) = some (some (vI 0), (SK, ν))) := by
  have a4 := h.1
  have a5 := h.2.1
  have n7 : 0 ≤ m 7 ∧ m 7 ≤ 60 := ⟨a4.1, a4.2.1⟩
  have hcn := (a4.2.2.2 c c0 c1).2.1
  have q33c := q33 (sc := sc) a4 c0 c1
  generalize hN : m (41904 + c).toNat = n at *
  have loop : ∀ (k j : Nat) (i : Int) (D : xM) (w : Nat → Int), i = j → j + k = n.toNat → (∀ k i : Nat, ¬ dS s k i → D k i = C k i) → (∀ i : Nat, ¬ aS s' i → w i = m i) → ySl D w s s' → oSl ρ w s' → (∀ t : Int, i ≤ t → t < n → ∀ x : Nat, aSf s' (m (42084 + (4 * c + t)).toNat) x → w x = m x) → w = apI m s' c j →
      ∃ C' : xM, AT sc 47 2 [vR 6, vI c, vR 2, vI s, vI n, vI i, vN] [] (SK, D) = some (some (vI (bI (∀ t : Nat, j ≤ t → (t : Int) < n → plc (fitE m s' (4 * c + (t : Int))) ≠ -1))), (SK, C')) ∧ (∀ k i : Nat, ¬ dS s k i → C' k i = C k i) ∧
        ((∀ t : Nat, j ≤ t → (t : Int) < n → plc (fitE m s' (4 * c + (t : Int))) ≠ -1) → ∃ m' : Nat → Int, m' = apI m s' c n.toNat ∧ rS w (fun ν => AT sc 191 3 [vR 139, vI c, vI s', vI (4 * c + i)] [] (SK, ν)) (fun ν => some (some (vI 1), (SK, ν))) m' ∧ (∀ i : Nat, ¬ aS s' i → m' i = m i) ∧ ySl C' m' s s' ∧ oSl ρ m' s') := by
    intro k
    induction k with
    | zero =>
      intro j i D w hi e hD hw hDS hwρ _ hwI
      refine ⟨D, ?_, hD, fun _ => ⟨w, by rw [hwI, show j = n.toNat by omega], .rf fun ν hν => ?_, hw, hDS, hwρ⟩⟩
      · rw [B47_2, bI_t (show ∀ t : Nat, j ≤ t → (t : Int) < n → plc (fitE m s' (4 * c + (t : Int))) ≠ -1 from fun t t0 t1 => by omega)]
        simp (disch := omega) only [B47_6, xcI_some, xcV_some, if_pos, if_neg, xg_in, wr_of, if_true, if_false, or_true, true_or]
      · have ew : w (41904 + c).toNat = n := by rw [hw _ (by unfold aS; omega), hN]
        show AT sc 191 3 [vR 139, vI c, vI s', vI (4 * c + i)] [] (SK, ν) = _
        rw [B191_3]
        simp (disch := omega) only [hν, ew, B191_5, xcI_some, xcV_some, if_pos, if_neg, xg_in, wr_of, if_true, if_false, or_true, true_or]
    | succ k ih =>
      intro j i D w hi e hD hw hDS hwρ hfr hwI
      have hK : yJ D w := yJ_W h (fun x hx => hw x (aS_W (by omega) hx)) (fun x y hx => hD x y (dS_W hs hx))
      have b4 := hK.1
      have b5 := hK.2.1
      have b1 := hK.2.2.2.1
      have w7 : w 7 = m 7 := hw 7 (by unfold aS; omega)
      have ewn : w (41904 + c).toNat = n := by rw [hw _ (by unfold aS; omega), hN]
      have he := (b5 c c0 (by omega)).1 i (by omega) (by omega)
      have hmE := (a5 c c0 c1).1 i (by omega) (by omega)
      have hmo := ho.2 c i c0 c1 (by omega) (by omega)
      have ix : c * 4 + i = 4 * c + i := by omega
      have dist : ∀ t : Int, i < t → t < n → m (42084 + (4 * c + t)).toNat ≠ m (42084 + (4 * c + i)).toNat := fun t t0 t1 et => by
        have := (a5 c c0 c1).2 t i (by omega) (by omega) (by omega) (by omega) et
        omega
      have fo : ∀ t : Int, 0 ≤ t → t < n → 0 ≤ m (42084 + (4 * c + t)).toNat ∧ m (42084 + (4 * c + t)).toNat ≤ 7 := fun t t0 t1 => by
        have := ((a5 c c0 c1).1 t t0 (by omega)).2.1
        omega
      have hfi := hfr i (Int.le_refl _) (by omega)
      have e0 : 0 ≤ 4 * c + i := by omega
      have e1 : 4 * c + i < 240 := by omega
      have ei2 : 4 * c + (j : Int) = 4 * c + i := by rw [hi]
      generalize hX : 4 * c + i = x at *
      have wE : ∀ y : Nat, 41484 ≤ y → w y = m y := fun y hy => hw y (by unfold aS; omega)
      obtain ⟨⟨c25, c27, c29, c31, c33⟩, ⟨f1, f2, f3, f4, f5, f6, f7, f8, f9, f10⟩, pT, pP⟩ := id he
      have wf : w (42084 + x).toNat = m (42084 + x).toNat := wE _ (by omega)
      have hFD := hDS (w (42084 + x).toNat) f1 (by omega)
      have hND : ndF w s' (w (42084 + x).toNat) := ndF_of (hwρ _ f1 (by omega))
      have efit : fitE w s' x = fitE m s' x := fitE_fr (f := m (42084 + x).toNat) rfl e0 (by omega) (by omega) (by rw [← wf]; exact f1) (by rw [← wf]; omega) (by
        have g := hFD.2.2.1
        rw [wf] at g
        rw [← hfi _ (by unfold aSf; omega)]
        exact g) hfi wE
      have k56 := K56e (sc := sc) (e := x) he rfl hFD hND (by omega) (by omega) e0 e1
      rw [efit] at k56
      by_cases ok : plc (fitE m s' x) = -1
      · have nf : ¬ ∀ t : Nat, j ≤ t → (t : Int) < n → plc (fitE m s' (4 * c + (t : Int))) ≠ -1 := fun z => z j (Nat.le_refl _) (by omega) (by rw [ei2]; exact ok)
        refine ⟨D, ?_, hD, fun z => absurd z nf⟩
        rw [ok] at k56
        rw [B47_2, bI_f nf]
        clear ih hfr dist fo hfi nf efit
        simp (disch := omega) only [ix, k56, B47_3, xcI_some, xcV_some, if_pos, if_neg, xg_in, wr_of, if_true, if_false, or_true, true_or]
      · have fp := plc_ok (P := fitE w s' x) (fun p hp => hp.1) (by rw [efit]; exact ok)
        rw [efit] at fp
        generalize hp : plc (fitE m s' x) = p at *
        obtain ⟨p0, p1, p2, p3, p4, p5⟩ : fitE w s' x p := by rw [efit]; exact fp
        have g1 := hFD.1
        have g3 := hFD.2.2.1
        have k57 := K57 (sc := sc) (μ := D) (s := s) (by omega) (by omega) f1 (by omega) e0 e1 c25 c31 c33 g1 p0 f3 f4 f5 f6 p1 g3 p2
        have r189 := m189 (sc := sc) (m := w) (s := s') (e := x) (a := p) (by omega) (by omega) f1 (by omega) e0 e1 rfl rfl rfl rfl p0 f3 f4 f5 f6 p1 g3 p2 (fun ν hν => by
          rw [m187_f hν hFD hND (by omega) (by omega) e0 e1 he, efit, hp])
        obtain ⟨nF, nρ⟩ := ap_yF (e := x) hFD pP (by omega) (by omega) (by omega) f1 (by omega) e0 e1 rfl p0 f3 f4 f5 f6 p1 p2 p3 p4
        have ane := fun y : Nat => apM_ne (m := w) (s := s') (f := w (42084 + x).toNat) (a := p) (t := w (42324 + x).toNat) (q := w (42564 + x).toNat) (n := w (12 + 8 * s' + w (42084 + x).toNat).toNat) (e := x) (i := y) (by omega) f1 p0 f3 f5 p1 g3 p2
        have dne := fun a b : Nat => dC_ne (C := D) (s := s) (f := w (42084 + x).toNat) (p := p) (t := w (42324 + x).toNat) (q := w (42564 + x).toNat) (n := w (12 + 8 * s' + w (42084 + x).toNat).toNat) (e := x) (k := a) (i := b) (by omega) f1 p0 f3 f5 p1 g3 p2
        have och := nρ (ρ (w (42084 + x).toNat)) (hwρ _ f1 (by omega)) (by
          have z := (yOk_fr (m' := w) hmo e0 hmE.2.1.2.2.2.1 hmE.2.1.2.2.2.2.2.1 (fun y hy => wE y (by unfold aEe at hy; omega))).2
          exact z)
        have w1 : apM w s' (w (42084 + x).toNat) p (w (42324 + x).toNat) (w (42564 + x).toNat) (w (12 + 8 * s' + w (42084 + x).toNat).toNat) x 1 = w 1 := ane 1 (by unfold aSf; omega)
        have D5 : dC D s (w (42084 + x).toNat) p (w (42324 + x).toNat) (w (42564 + x).toNat) (w (12 + 8 * s' + w (42084 + x).toNat).toNat) x 5 = D 5 := by
          funext y
          exact dne 5 y (by unfold dSf; omega)
        have ew2 : apX w s' x = apM w s' (w (42084 + x).toNat) p (w (42324 + x).toNat) (w (42564 + x).toNat) (w (12 + 8 * s' + w (42084 + x).toNat).toNat) x := by
          unfold apX
          rw [efit, hp]
        generalize hw2 : apM w s' (w (42084 + x).toNat) p (w (42324 + x).toNat) (w (42564 + x).toNat) (w (12 + 8 * s' + w (42084 + x).toNat).toNat) x = w2 at *
        generalize hD2 : dC D s (w (42084 + x).toNat) p (w (42324 + x).toNat) (w (42564 + x).toNat) (w (12 + 8 * s' + w (42084 + x).toNat).toNat) x = D2 at *
        obtain ⟨C', z1, z2, z3⟩ := ih (j + 1) (i + 1) D2 w2 (by omega) (by omega)
          (fun a b hab => (dne a b (fun y => hab (by unfold dSf at y; unfold dS; omega))).trans (hD a b hab))
          (fun a ha => (ane a (fun y => ha (by unfold aSf at y; unfold aS; omega))).trans (hw a ha))
          (fun f f0 f1' => by
            by_cases ef : f = w (42084 + x).toNat
            · rw [ef]; exact nF
            · exact yFf_fr (hDS f f0 f1') (fun a b hab => dne a b (by unfold dF at hab; unfold dSf; omega)) (fun a _ _ => by rw [D5]) (by rw [w1]; exact Int.le_refl _) (fun a ha => ane a (by unfold aF at ha; unfold aSf; omega)) (by omega) (by omega) (by omega))
          (fun f f0 f1' => by
            by_cases ef : f = w (42084 + x).toNat
            · rw [ef]; exact och
            · have l24 := (hDS f f0 f1').2.2.1
              unfold fiL
              rw [ane (12 + 8 * s' + f).toNat (by unfold aSf; omega), mkL_fr (m := w) (fun y y0 y1 => ane _ (by unfold aSf; omega))]
              exact hwρ f f0 f1')
          (fun t t0 t1 y hy => by
            have := fo t (by omega) t1
            have := dist t (by omega) t1
            rw [ane y (fun z => by unfold aSf at hy z; rw [wf] at z; omega)]
            exact hfr t (by omega) t1 y hy)
          (by
            show w2 = apX (apI m s' c j) s' (4 * c + (j : Int))
            rw [← hwI, ei2, ew2])
        have eq : (∀ t : Nat, j + 1 ≤ t → (t : Int) < n → plc (fitE m s' (4 * c + (t : Int))) ≠ -1) ↔ (∀ t : Nat, j ≤ t → (t : Int) < n → plc (fitE m s' (4 * c + (t : Int))) ≠ -1) := ⟨fun z t t0 t1 => by
          by_cases et : t = j
          · rw [et, ei2, hp]; exact ok
          · exact z t (by omega) t1, fun z t t0 t1 => z t (by omega) t1⟩
        refine ⟨C', ?_, z2, fun z => ?_⟩
        · rw [B47_2, ← bI_iff eq]
          clear z3 ih hfr dist fo hfi efit eq nρ ane dne
          simp (disch := omega) only [ix, k56, B47_3, B47_4, k57, B47_5, z1, xcI_some, xcV_some, if_pos, if_neg, xg_in, wr_of, if_true, if_false, or_true, true_or]
        · obtain ⟨m', y0, y1, y2, y3, y4⟩ := z3 (eq.mpr z)
          refine ⟨m', y0, rS.tr (m1 := w2) (fun ν hν => ?_) y1, y2, y3, y4⟩
          obtain ⟨ν', v1, v2, v3⟩ := r189 ν hν
          refine ⟨ν', ?_, v2, v3⟩
          have v1' : EV sc 189 [vR 139, vI x, vI s'] (SK, ν) = some (none, (SK, ν')) := v1
          have exx : 4 * c + (i + 1) = x + 1 := by omega
          show AT sc 191 3 [vR 139, vI c, vI s', vI x] [] (SK, ν) = AT sc 191 3 [vR 139, vI c, vI s', vI (4 * c + (i + 1))] [] (SK, ν')
          rw [exx, B191_3]
          clear z3 ih hfr dist fo hfi efit eq nρ ane dne z
          simp (disch := omega) only [hν, ewn, v1', B191_4, xcI_some, xcV_some, if_pos, if_neg, xg_in, wr_of, if_true, if_false, or_true, true_or]
  obtain ⟨C', z1, z2, z3⟩ := loop n.toNat 0 0 C m rfl (by omega) (fun _ _ _ => rfl) (fun _ _ => rfl) hS hρ (fun _ _ _ _ _ => rfl) rfl
  have eq : (∀ t : Nat, 0 ≤ t → (t : Int) < n → plc (fitE m s' (4 * c + (t : Int))) ≠ -1) ↔ fitC m s' c := by
    unfold fitC
    rw [hN]
    exact ⟨fun z t t1 => z t (by omega) t1, fun z t _ t1 => z t t1⟩
  rw [bI_iff eq] at z1
  have hNs : ∀ f : Int, 0 ≤ f → f < 8 → ndF m s' f := fun f f0 f1 => ndF_of (hρ f f0 f1)
  have m8 := fun ν : xM => fun hν : ν 140 = m => m188 (sc := sc) hν a4 a5 hS hNs (by omega) (by omega) c0 c1
  refine ⟨C', ?_, z2, fun z => ?_, fun z ν hν => ?_⟩
  · simp (disch := omega) only [V47, B47_0, q33c, B47_1, z1, xcI_some, xcV_some, if_pos, if_neg, xg_in, wr_of, if_true, if_false, or_true, true_or]
  · obtain ⟨m', y0, y1, y2⟩ := z3 (eq.mpr z)
    refine ⟨m', y0, fun ν hν => ?_, y2⟩
    obtain ⟨ν', v1, v2⟩ := y1 ν hν
    have v1' : AT sc 191 3 [vR 139, vI c, vI s', vI (4 * c + 0)] [] (SK, ν) = some (some (vI 1), (SK, ν')) := v1
    rw [Int.add_zero] at v1'
    have m88 := m8 ν hν
    rw [bI_t z] at m88
    refine ⟨ν', ?_, v2⟩
    show EV sc 191 [vR 139, vI c, vI s'] (SK, ν) = some (some (vI 1), (SK, ν'))
    simp (disch := omega) only [V191, B191_0, m88, B191_1, B191_2, v1', xcI_some, xcV_some, if_pos, if_neg, xg_in, wr_of, if_true, if_false, or_true, true_or]
  · have m88 := m8 ν hν
    rw [bI_f z] at m88
    simp (disch := omega) only [V191, B191_0, m88, B191_1, xcI_some, xcV_some, if_pos, if_neg, xg_in, wr_of, if_true, if_false, or_true, true_or]
theorem yF_row {f : Int} {m' : Nat → Int} (h : yF C m s s' f) (s0 : 0 ≤ s') (f0 : 0 ≤ f) (f1 : f < 8) (hm : ∀ i : Nat, aS s' i → m' i = m i) (h1 : m' 1 = m 1) : yF C m' s s' f := by
  have g3 := h.2.2.1
  refine slE_yF h ⟨hm _ (by unfold aS; omega), fun i i0 i1 => ⟨hm _ (by unfold aS; omega), hm _ (by unfold aS; omega)⟩⟩ h1
theorem yF_C {f : Int} {C' : xM} (h : yF C m s s' f) (s0 : 0 ≤ s) (f0 : 0 ≤ f) (f1 : f < 8) (hC : ∀ k i : Nat, dS s k i → C' k i = C k i) (h5 : C' 5 = C 5) : yF C' m s s' f := by
  obtain ⟨g1, g2, g3, g4⟩ := h
  unfold yF
  rw [hC 4 (s * 8 + f).toNat (by unfold dS; omega), h5]
  refine ⟨g1, g2, g3, fun i i0 i1 => ?_⟩
  rw [hC 3 ((s * 8 + f) * 24 + i).toNat (by unfold dS; omega)]
  exact g4 i i0 i1
end

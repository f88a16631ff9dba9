/-! batches gathered -/
theorem rdy_fr {C : xM} {m w : Nat → Int} (hA : yA C m) {c : Int} (c0 : 0 ≤ c) (c1 : c < m 7) (e : ∀ i : Nat, (41604 ≤ i ∧ i < 41784) ∨ (41964 ≤ i ∧ i < 42084) → w i = m i) : rdy w c ↔ rdy m c := by
  have h7 := hA.2.1
  have gp := (hA.2.2.2 c c0 c1).2.2.2
  have ne : ∀ i : Int, 0 ≤ i → i < 60 → w (41604 + i).toNat = m (41604 + i).toNat ∧ w (41724 + i).toNat = m (41724 + i).toNat ∧ w (41964 + i).toNat = m (41964 + i).toNat ∧ w (42024 + i).toNat = m (42024 + i).toNat := fun i i0 i1 => ⟨e _ (by omega), e _ (by omega), e _ (by omega), e _ (by omega)⟩
  obtain ⟨x1, x2, x3, x4⟩ := ne c c0 (by omega)
  unfold rdy fre
  rw [x1, x2, x3, x4]
  by_cases e1 : m (41964 + c).toNat = -1
  · exact ⟨fun x => ⟨x.1, Or.inl e1⟩, fun x => ⟨x.1, Or.inl e1⟩⟩
  · obtain ⟨y1, y2, y3, y4⟩ := ne (m (41964 + c).toNat) (by omega) (by omega)
    rw [y1, y2, y4]
theorem rfA_fr {C : xM} {m w : Nat → Int} (hA : yA C m) (hW : yW C m) {k : Int} (k0 : 0 ≤ k) (k1 : k < m 8) (e : ∀ i : Nat, (41604 ≤ i ∧ i < 41784) ∨ (41964 ≤ i ∧ i < 42084) → w i = m i) (e2 : ∀ i : Nat, i = 8 ∨ (49044 ≤ i ∧ i < 49104) → w i = m i) : rfA w k ↔ rfA m k := by
  have h7 := hA.2.1
  have w8 := hW.2.1
  have gw := hW.2.2.2.1 k k0 k1
  have el : ∀ j : Int, 0 ≤ j → j < m 8 → lnA w j = lnA m j := fun j j0 j1 => e2 _ (by omega)
  have gl : 0 ≤ lnA m k ∧ lnA m k < m 7 := ⟨gw.2.1, gw.2.2.1⟩
  unfold rfA
  rw [el k k0 k1, e2 8 (by omega), rdy_fr hA gl.1 gl.2 e, e (41964 + lnA m k).toNat (by omega)]
  exact and_congr Iff.rfl (or_congr Iff.rfl ⟨fun ⟨j, j0, j1, j2⟩ => ⟨j, j0, j1, by rw [← el j (by omega) j1]; exact j2⟩, fun ⟨j, j0, j1, j2⟩ => ⟨j, j0, j1, by rw [el j (by omega) j1]; exact j2⟩⟩)
theorem up1_same {m : Nat → Int} {i : Nat} {v : Int} (h : m i = v) : up1 m i v = m := by
  funext j
  by_cases e : j = i
  · rw [e, up1_eq, h]
  · exact up1_ne e
theorem tsM_same {m : Nat → Int} {u p t : Int} (h : m (41844 + u).toNat = t) (h2 : p ≠ -1 → m (41844 + p).toNat = t) : tsM m u p t = m := by
  unfold tsM
  by_cases e : p = -1
  · rw [if_pos e]
    exact up1_same h
  · rw [if_neg e, up1_same h, up1_same (h2 e)]
def fit1 (w : Nat → Int) (u : Int) : Prop := ∀ (z : Nat → Int) (t : Int), 0 ≤ t → t < 64 → sl2 w (w 0) z t → edS w z → uft z t u
theorem fit1_fr {w w' : Nat → Int} {u : Int} (h : fit1 w u) (h0 : w' 0 = w 0) (s0 : 0 ≤ w 0 ∧ w 0 ≤ 60) (hl : ∀ f : Int, 0 ≤ f → f < 8 → 0 ≤ w (12 + 8 * w 0 + f).toNat ∧ w (12 + 8 * w 0 + f).toNat ≤ 24) (e : ∀ i : Nat, aS (w 0) i → w' i = w i) (e2 : ∀ i : Nat, (41904 ≤ i ∧ i < 42024) ∨ (42084 ≤ i ∧ i < 49044) → w' i = w i) : fit1 w' u := fun z t t0 t1 hs hz => by
  refine h z t t0 t1 (fun f f0 f1 => ?_) (fun i hi => by rw [hz i hi, e2 i hi])
  have l := hl f f0 f1
  rw [h0] at hs
  have x : slE w w' (w 0) (w 0) f := ⟨e _ (by unfold aS; omega), fun i i0 i1 => ⟨e _ (by unfold aS; omega), e _ (by unfold aS; omega)⟩⟩
  exact slE_tr x (hs f f0 f1)
/-- a unit that fits on a copy of the latest state fits on it for good -/
theorem fit1_of {C : xM} {m w : Nat → Int} {s u : Int} (hJ : yJ C m) (hs : s = 61 ∨ s = 63) (hb : ∀ f : Int, 0 ≤ f → f < 8 → 0 ≤ m (12 + 8 * s + f).toNat ∧ m (12 + 8 * s + f).toNat ≤ 24) (u0 : 0 ≤ u) (u1 : u < m 7) (hc : sl2 w (w 0) m s) (he : edS w m) (ok : uft m s u) : fit1 w u := fun z t t0 t1 hz hez =>
  (uft_sl hJ hb (fun f f0 f1 => slE_tr (slE_sy (hc f f0 f1)) (hz f f0 f1)) (fun i hi => by rw [hez i hi, ← he i hi]) hs t0 t1 u0 u1).mp ok
section
variable {sc : Nat × (Nat → Int)} {C : xM} {m : Nat → Int} {ρ : Int → Int → Int}
theorem oB_fr {m' : Nat → Int} (ho : oB ρ m) (h : yJ C m) (em : ∀ i : Nat, i ≤ 7 ∨ (12 ≤ i ∧ i < 500) ∨ (21004 ≤ i ∧ i < 40524) ∨ (41904 ≤ i ∧ i < 41964) ∨ (42084 ≤ i ∧ i < 49044) → m' i = m i) : oB ρ m' := by
  obtain ⟨a4, a5, a6⟩ := h
  have n0 : 0 ≤ m 0 ∧ m 0 ≤ 60 ∧ C 2 3 = m 0 := a6.1
  have h7 := a4.2.1
  refine ⟨fun s f s0 s1 f0 f1 => ?_, fun c k c0 c1 k0 k1 => ?_⟩
  · rw [em 0 (by omega)] at s1
    have hF := a6.2.2 s f s0 s1 f0 f1
    rw [em (12 + 8 * s + f).toNat (by omega), mkL_fr (m := m) (fun k k0 k1 => em _ (by have := hF.2.2.1; omega))]
    exact ho.1 s f s0 s1 f0 f1
  · rw [em 7 (by omega)] at c1
    rw [em (41904 + c).toNat (by omega)] at k1
    have he := ((a5 c c0 c1).1 k k0 k1).2.1
    have hne := (a4.2.2.2 c c0 c1).2.1
    exact yOk_fr (ho.2 c k c0 c1 k0 k1) (by omega) (by omega) (by omega) (fun i hi => em i (by unfold aEe at hi; omega))
/-- the fit on a copy of the latest state, as the class and the reference try it -/
theorem fits_alone (h : yJ C m) (ho : oB ρ m) {st : Int} (hst : st = 61 ∨ st = 62) {u : Int} (u0 : 0 ≤ u) (u1 : u < m 7) : ∃ (b : Int) (C' : xM) (m' : Nat → Int), (b = 0 ∨ b = 1) ∧ EV sc 71 [vR 1, vI u, vI (m 0), vI st] (SK, C) = some (some (vI b), (SK, C')) ∧ rS m (fun ν => EV sc 209 [vR 139, vI u] (SK, ν)) (fun ν => some (some (vI b), (SK, ν))) m' ∧ (∀ k i : Nat, ¬ dS st k i → C' k i = C k i) ∧ (∀ i : Nat, ¬ aS 63 i → ¬ aS 62 i → m' i = m i) ∧
    (b = 1 → fit1 m u) ∧ (∀ s' : Int, 0 ≤ s' → s' < 64 → sl2 m (m 0) m s' → (b = 1 ↔ uft m s' u)) := by
  obtain ⟨a4, a5, a6⟩ := id h
  have n0 : 0 ≤ m 0 ∧ m 0 ≤ 60 ∧ C 2 3 = m 0 := a6.1
  have hl : ∀ f : Int, 0 ≤ f → f < 8 → 0 ≤ m (12 + 8 * m 0 + f).toNat ∧ m (12 + 8 * m 0 + f).toNat ≤ 24 := fun f f0 f1 => by
    have g := a6.2.2 (m 0) f n0.1 (Int.le_refl _) f0 f1
    exact ⟨g.2.1, g.2.2.1⟩
  obtain ⟨m1, r1, x1, x2⟩ := m168 (sc := sc) (m := m) (s := m 0) (t := 63) n0.1 (by omega) (by omega) (by omega) (by omega) hl
  have m11 : m1 1 = m 1 := x1 1 (by unfold aS; omega)
  have hJ1 : yJ C m1 := yJ_W h (fun i hi => x1 i (aS_W (by omega) hi)) (fun _ _ _ => rfl)
  have ho1 : oB ρ m1 := oB_W ho h (fun i hi => x1 i (aS_W (by omega) hi))
  have hS1 : ySl C m1 (m 0) 63 := fun f f0 f1 => slE_yF (a6.2.2 (m 0) f n0.1 (Int.le_refl _) f0 f1) (x2 f f0 f1) m11
  have hρ1 : oSl ρ m1 63 := fun f f0 f1 => by
    rw [slE_fi (x2 f f0 f1)]
    exact ho.1 (m 0) f n0.1 (Int.le_refl _) f0 f1
  have w7 : m1 7 = m 7 := x1 7 (by unfold aS; omega)
  obtain ⟨b, C', m', hb, e1, r2, z1, z2, z3, z4, z5, z6⟩ := unit_comes (sc := sc) hJ1 ho1 hS1 hρ1 n0.1 (by omega) hst (by omega) (Or.inr rfl) u0 (by omega)
  have hl63 : ∀ f : Int, 0 ≤ f → f < 8 → 0 ≤ m1 (12 + 8 * 63 + f).toNat ∧ m1 (12 + 8 * 63 + f).toNat ≤ 24 := fun f f0 f1 => by
    rw [(x2 f f0 f1).1]
    exact hl f f0 f1
  have hed : edS m m1 := fun i hi => x1 i (by unfold aS; omega)
  refine ⟨b, C', m', hb, e1, fun ν hν => ?_, z1, fun i h1 h2 => by rw [z2 i h1 h2, x1 i h1], fun hb1 => ?_, fun s' s0 s1 hs => ?_⟩
  · obtain ⟨ν1, v1, v2, v3⟩ := r1 ν hν
    obtain ⟨ν2, v4, v5, v6⟩ := r2 ν1 v2
    have v1' : EV sc 168 [vR 139, vI (m 0), vI 63] (SK, ν) = some (none, (SK, ν1)) := v1
    have v4' : EV sc 208 [vR 139, vI u, vI 63] (SK, ν1) = some (some (vI b), (SK, ν2)) := v4
    refine ⟨ν2, ?_, v5, v3.tr v6⟩
    show EV sc 209 [vR 139, vI u] (SK, ν) = some (some (vI b), (SK, ν2))
    simp (disch := omega) only [V209, B209_0, B209_1, B209_2, hν, v1', v4', xcI_some, xcV_some, if_pos, if_neg, xg_in, wr_of, if_true, if_false, or_true, true_or]
  · exact fit1_of hJ1 (Or.inr rfl) hl63 u0 (by omega) x2 hed (z6.mp hb1)
  · rw [z6]
    refine uft_sl hJ1 hl63 (fun f f0 f1 => slE_tr (slE_sy (x2 f f0 f1)) (hs f f0 f1)) (fun i hi => (hed i hi).symm) (Or.inr rfl) s0 s1 u0 (by omega)
theorem yP_00 (h : yP C m) (h9 : m 9 = 0) : C 41 6 = 0 ∧ C 41 7 = 0 := by
  obtain ⟨h1, h2, _⟩ := h
  rw [h9] at h1 h2
  exact ⟨by rw [h2]; rfl, h1.2.2⟩
theorem alone (h : yK C m) (h9 : m 9 = 0) {pu : Int} (pu0 : 0 ≤ pu) (pu1 : pu < m 8) (hr : rfA m pu) : ∃ (C' : xM) (m' : Nat → Int), EV sc 69 [vR 1, vI (lnA m pu)] (SK, C) = some (none, (SK, C')) ∧ rS m (fun ν => EV sc 214 [vR 139, vI (lnA m pu)] (SK, ν)) (fun ν => some (none, (SK, ν))) m' ∧ frC C C' ∧ yK C' m' ∧ ((m' 9 = 1 ∧ frsh m' ∧ m' 8 = m 8) ∨ (m' 9 = 0 ∧ m' 8 < m 8)) ∧ m' 10 = m 10 := by
  obtain ⟨a1, a2, a3, a4, a5, a6, a7, a8, a9, a10, a11⟩ := id h
  have hQ := yQ_of h
  have n7 : 0 ≤ m 7 ∧ m 7 ≤ 60 := ⟨a4.1, a4.2.1⟩
  have n8 : 0 ≤ m 8 ∧ m 8 ≤ 60 := ⟨a7.1, a7.2.1⟩
  have n0 : 0 ≤ m 0 ∧ m 0 ≤ 60 ∧ C 2 3 = m 0 := a6.1
  obtain ⟨ρ, ho⟩ := a9
  have ho' : oB ρ m := ho
  have gw := a7.2.2.2.1 pu pu0 pu1
  have gl : 0 ≤ lnA m pu ∧ lnA m pu < m 7 ∧ m (41724 + lnA m pu).toNat = 1 := ⟨gw.2.1, gw.2.2.1, gw.2.2.2⟩
  have gp := (a4.2.2.2 _ gl.1 gl.2.1).2.2.2
  obtain ⟨b, C2, m2, hb, e1, r2, z1, z2, z3, z4⟩ := fits_alone (sc := sc) (yQ_J hQ) ho' (Or.inl rfl) gl.1 gl.2.1
  have hK2 : yK C2 m2 := yK_W h (fun i hi => z2 i (aS_W (by omega) hi) (aS_W (by omega) hi)) (fun k i hi => z1 k i (dS_W (by omega) hi))
  have hQ2 := yQ_of hK2
  have hf2 : frC C C2 := fun j hj => by
    funext i
    exact z1 j i (by unfold dS; omega)
  have m2s : ∀ i : Nat, (i < 500 ∨ (524 ≤ i ∧ i < 20044) ∨ (21004 ≤ i ∧ i < 40524) ∨ 41484 ≤ i) → m2 i = m i := fun i hi => z2 i (by unfold aS; omega) (by unfold aS; omega)
  have c41 : C2 41 6 = 0 ∧ C2 41 7 = 0 := yP_00 hK2.2.2.2.2.2.2.2.1 (by rw [m2s 9 (by omega)]; exact h9)
  have el2 : ∀ j : Int, 0 ≤ j → j < m 8 → lnA m2 j = lnA m j := fun j j0 j1 => m2s _ (by omega)
  have hr2 : rfA m2 pu := (rfA_fr a4 a7 pu0 pu1 (fun i hi => m2s i (by omega)) (fun i hi => m2s i (by omega))).mpr hr
  have lat : EV sc 1 [vR 2] (SK, C) = some (some (vI (m 0)), (SK, C)) := by
    simp (disch := omega) only [V1, B1_0, n0.2.2, xcI_some, xcV_some, if_pos, if_neg, xg_in, wr_of, if_true, if_false, or_true, true_or]
  generalize hu : lnA m pu = u at *
  rcases hb with hb | hb
  · subst hb
    have hp2 : m2 (41964 + u).toNat = -1 ∨ m2 (41724 + m2 (41964 + u).toNat).toNat = 1 := by
      rw [m2s (41964 + u).toNat (by omega)]
      have hrd := hr.1.2
      rw [hu] at hrd
      rcases hrd with y | y
      · exact Or.inl y
      · right
        rw [m2s _ (by omega)]
        exact y.1
    obtain ⟨C3, m3, f1, _, f2, f3, f4, f5, f6, f7, f8, f9, f10, f11, f12, f13, f14⟩ := unit_out (sc := sc) (w := 5) hQ2 gl.1 (by rw [m2s 7 (by omega)]; exact gl.2.1) pu0 (by rw [m2s 8 (by omega)]; exact pu1) (by rw [el2 pu pu0 pu1]; exact hu) (by omega) (by omega) hp2
    have ts : tsM m3 u (m2 (41964 + u).toNat) (-1) = m3 := tsM_same (by
      rw [f8 _ (by omega) (by omega) (by omega)]
      exact hQ2.2.2.2.2.2.2.2.2.2.2 u gl.1 (by rw [m2s 7 (by omega)]; exact gl.2.1) (Or.inr (by rw [m2s _ (by omega)]; exact gl.2.2))) (fun y => by
      have z := hp2.elim (fun x => absurd x y) id
      rw [m2s (41964 + u).toNat (by omega)] at y z ⊢
      rw [f8 _ (by omega) (by omega) (by omega)]
      exact hQ2.2.2.2.2.2.2.2.2.2.2 _ (by omega) (by rw [m2s 7 (by omega)]; omega) (Or.inr z))
    have r3 := f5 (-1)
    rw [ts] at r3
    refine ⟨C3, m3, ?_, fun ν hν => ?_, hf2.tr f2, yQ_K f4 (yP0 (by rw [f8 9 (by omega) (by omega) (by omega), m2s 9 (by omega)]; exact h9) (by rw [f3 41 (by omega) (by omega) (by omega)]; exact c41.1) (by rw [f3 41 (by omega) (by omega) (by omega)]; exact c41.2)), Or.inr ⟨by rw [f8 9 (by omega) (by omega) (by omega), m2s 9 (by omega)]; exact h9, by rw [m2s 8 (by omega)] at f6; exact f6⟩, by rw [f8 10 (by omega) (by omega) (by omega), m2s 10 (by omega)]⟩
    · simp (disch := omega) only [V69, B69_0, B69_1, B69_2, B69_5, B69_6, lat, e1, f1, xcI_some, xcV_some, if_pos, if_neg, xg_in, wr_of, if_true, if_false, or_true, true_or]
    · obtain ⟨ν1, v1, v2, v3⟩ := r2 ν hν
      obtain ⟨ν2, v4, v5, v6⟩ := r3 ν1 v2
      have v1' : EV sc 209 [vR 139, vI u] (SK, ν) = some (some (vI 0), (SK, ν1)) := v1
      have v4' : EV sc 210 [vR 139, vI u, vI 5, vI (-1)] (SK, ν1) = some (none, (SK, ν2)) := v4
      refine ⟨ν2, ?_, v5, v3.tr v6⟩
      show EV sc 214 [vR 139, vI u] (SK, ν) = some (none, (SK, ν2))
      simp (disch := omega) only [V214, B214_0, B214_1, B214_4, B214_5, v1', v4', xcI_some, xcV_some, if_pos, if_neg, xg_in, wr_of, if_true, if_false, or_true, true_or]
  · subst hb
    have q34u := q34 (sc := sc) hK2.2.2.2.1 gl.1 (by rw [m2s 7 (by omega)]; exact gl.2.1)
    have g0 := gP_0 (m := m2) (k := pu) c41.1 c41.2
    have m29 : m2 9 = 0 := by rw [m2s 9 (by omega)]; exact h9
    have nr : ∀ i : Nat, (i ≠ 9 ∧ (i < 49104 ∨ 49296 ≤ i)) → nrM m2 0 (-1) i = m2 i := fun i hi => by
      unfold nrM
      simp (disch := omega) only [up1_ne]
    have hQ3 : yQ C2 (nrM m2 0 (-1)) := yQ_fr hQ2 (fun i hi => nr i hi) (fun _ _ _ => rfl)
    have hr3 : rfA (nrM m2 0 (-1)) pu := (rfA_fr hQ2.2.2.2.1 hQ2.2.2.2.2.2.2.1 pu0 (by rw [m2s 8 (by omega)]; exact pu1) (fun i hi => nr i (by omega)) (fun i hi => nr i (by omega))).mpr hr2
    have elu : lnA (nrM m2 0 (-1)) pu = u := by
      unfold lnA
      rw [nr _ (by omega)]
      have := el2 pu pu0 pu1
      unfold lnA at this hu
      rw [this, hu]
    have gA := gP_add g0 hQ3.2.2.2.1 hQ3.2.2.2.2.2.2.1 (by omega) pu0 (by rw [nr 8 (by omega), m2s 8 (by omega)]; exact pu1) hr3
    have k109 := K109g (sc := sc) (u := u) (t := m2 (41964 + u).toNat) g0 (by omega)
    rw [elu, nr (41964 + u).toNat (by omega)] at gA
    have r212 := m212 (sc := sc) (m := m2) (t := -1) m29 (Int.le_refl _) (by omega)
    have r213 := m213 (sc := sc) (m := nrM m2 0 (-1)) (u := u) (r := 0) (n := 0) g0.1.1 (Int.le_refl _) (by omega) g0.1.2.1 (Int.le_refl _) (by omega)
    have an : ∀ i : Nat, (i ≠ 9 ∧ (i < 49104 ∨ 49296 ≤ i)) → auM (nrM m2 0 (-1)) 0 0 u i = m2 i := fun i hi => by
      rw [← nr i hi]
      unfold auM
      rw [up1_ne (by omega), up1_ne (by omega)]
    have au : auM (nrM m2 0 (-1)) 0 0 u 49168 = u := by
      unfold auM
      rw [up1_ne (by omega)]
      exact up1_eq
    refine ⟨_, auM (nrM m2 0 (-1)) 0 0 u, ?_, fun ν hν => ?_, hf2.tr (adC_fr (n := 0) (u := u) (t := m2 (41964 + u).toNat)), yQ_K (yQ_fr hQ2 an (fun k i hk => adC_ne (n := 0) hk)) (gP_yP gA (by omega)), Or.inl ⟨gA.1.1, ⟨gA.1.2.2.1, ?_, ?_⟩, ?_⟩, ?_⟩
    · simp (disch := omega) only [V69, B69_0, B69_1, B69_2, B69_3, B69_4, B69_6, lat, e1, q34u, k109, xcI_some, xcV_some, if_pos, if_neg, xg_in, wr_of, if_true, if_false, or_true, true_or]
    · obtain ⟨ν1, v1, v2, v3⟩ := r2 ν hν
      obtain ⟨ν2, v4, v5, v6⟩ := r212 ν1 v2
      obtain ⟨ν3, v7, v8, v9⟩ := r213 ν2 v5
      have v1' : EV sc 209 [vR 139, vI u] (SK, ν) = some (some (vI 1), (SK, ν1)) := v1
      have v4' : EV sc 212 [vR 139, vI (-1)] (SK, ν1) = some (none, (SK, ν2)) := v4
      have v7' : EV sc 213 [vR 139, vI u] (SK, ν2) = some (none, (SK, ν3)) := v7
      refine ⟨ν3, ?_, v8, v3.tr (v6.tr v9)⟩
      show EV sc 214 [vR 139, vI u] (SK, ν) = some (none, (SK, ν3))
      simp (disch := omega) only [V214, B214_0, B214_1, B214_2, B214_3, B214_5, v1', v4', v7', xcI_some, xcV_some, if_pos, if_neg, xg_in, wr_of, if_true, if_false, or_true, true_or]
    · rw [au]
      have hr1 := hr.1
      rw [hu] at hr1
      exact (rdy_fr a4 gl.1 gl.2.1 (fun i hi => by rw [an i (by omega), m2s i (by omega)])).mpr hr1
    · rw [au]
      refine fit1_fr (z3 rfl) (by rw [an 0 (by omega), m2s 0 (by omega)]) ⟨n0.1, n0.2.1⟩ (fun f f0 f1 => by
        have g := a6.2.2 (m 0) f n0.1 (Int.le_refl _) f0 f1
        exact ⟨g.2.1, g.2.2.1⟩) (fun i hi => by unfold aS at hi; rw [an i (by omega), m2s i (by omega)]) (fun i hi => by rw [an i (by omega), m2s i (by omega)])
    · rw [an 8 (by omega), m2s 8 (by omega)]
    · rw [an 10 (by omega), m2s 10 (by omega)]
end

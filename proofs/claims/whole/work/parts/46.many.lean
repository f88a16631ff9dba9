/-! batches gathered: of many units -/
theorem gP_fr {C C' : xM} {w w' : Nat → Int} {n : Nat} {k : Int} (h : gP C w n k) (h7 : w 7 ≤ 60) (h8 : w 8 ≤ 60) (hC : ∀ k i : Nat, (k = 41 ∨ k = 43 ∨ k = 45 ∨ k = 47 ∨ k = 49 ∨ k = 51 ∨ k = 53) → C' k i = C k i) (e : ∀ i : Nat, i = 7 ∨ i = 8 ∨ i = 9 ∨ (41724 ≤ i ∧ i < 41784) ∨ (41964 ≤ i ∧ i < 42024) ∨ (49044 ≤ i ∧ i < 49296) → w' i = w i) : gP C' w' n k := by
  obtain ⟨⟨g1, g2, g3, g4, g5, g6⟩, ⟨c1, c2⟩, c3, us, nd⟩ := h
  have er : rowU w' 0 = rowU w 0 := rowU_fr (e _ (by omega)) (fun k hk => e _ (by rw [Nat.add_zero, g2] at hk; omega))
  have hmem : ∀ v ∈ rowU w 0, ∃ i : Nat, i < n ∧ w (49168 + i) = v := fun v hv => by
    obtain ⟨i, hi, e⟩ := List.mem_map.mp hv
    have h2 := List.mem_range.mp hi
    rw [Nat.add_zero, g2] at h2
    exact ⟨i, by omega, by rw [← e]; simp⟩
  have ec : chU w' (rowU w 0) = chU w (rowU w 0) := chU_fr _ fun v hv => by
    obtain ⟨i, i1, i2⟩ := hmem v hv
    have z := us i i1
    rw [i2] at z
    exact e _ (by omega)
  refine ⟨⟨by rw [e 9 (by omega)]; exact g1, by rw [e 49104 (by omega)]; exact g2, by rw [e 49120 (by omega)]; exact g3, by rw [e 49136 (by omega)]; exact g4, by rw [e 49152 (by omega)]; exact g5, g6⟩, ⟨by rw [hC 41 6 (by omega)]; exact c1, by rw [hC 41 7 (by omega)]; exact c2⟩, fun hn => ?_, fun i hi => ?_, by rw [er, ec]; exact nd⟩
  · rw [hC 47 0 (by omega), hC 49 0 (by omega), hC 51 0 (by omega), hC 53 0 (by omega)]
    exact c3 hn
  · obtain ⟨z1, z2, z3, z4, z5, j, j0, j1, j2, j3⟩ := us i hi
    rw [e (49168 + i) (by omega), e 7 (by omega), e 8 (by omega), hC 43 i (by omega), hC 45 i (by omega), e (41964 + w (49168 + i)).toNat (by omega), e (41724 + w (49168 + i)).toNat (by omega)]
    refine ⟨z1, z2, z3, z4, z5, j, j0, j1, j2, ?_⟩
    unfold lnA at j3 ⊢
    rw [e _ (by omega)]
    exact j3
theorem gP_mono {C : xM} {w : Nat → Int} {n : Nat} {k k' : Int} (h : gP C w n k) (hk : k ≤ k') : gP C w n k' := by
  obtain ⟨g, c1, c3, us, nd⟩ := h
  refine ⟨g, c1, c3, fun i hi => ?_, nd⟩
  obtain ⟨z1, z2, z3, z4, z5, j, j0, j1, j2, j3⟩ := us i hi
  exact ⟨z1, z2, z3, z4, z5, j, j0, by omega, j2, j3⟩
theorem sl2_of {C C' : xM} {w w' : Nat → Int} {s s' t : Int} (h : ySl C w s s') (h2 : ySl C' w' s t) (s0 : 0 ≤ s) (hC : ∀ k i : Nat, dS s k i → C' k i = C k i) (h5 : C' 5 = C 5) : sl2 w s' w' t := fun f f0 f1 => by
  obtain ⟨a1, a2, a3, a4⟩ := h f f0 f1
  obtain ⟨b1, b2, b3, b4⟩ := h2 f f0 f1
  have el : w' (12 + 8 * t + f).toNat = w (12 + 8 * s' + f).toNat := by
    rw [← b1, ← a1, hC 4 _ (by unfold dS; omega)]
  refine ⟨el, fun i i0 i1 => ?_⟩
  obtain ⟨c1, c2, c3, c4, c5, c6⟩ := a4 i i0 i1
  obtain ⟨d1, d2, d3, d4, d5, d6⟩ := b4 i i0 (by omega)
  have em : w' (21004 + (320 * t + 40 * f + i)).toNat = w (21004 + (320 * s' + 40 * f + i)).toNat := by
    rw [← d1, ← c1, hC 3 _ (by unfold dS; omega)]
  exact ⟨em, by rw [← d4, ← c4, em, h5]⟩
theorem gP_out {C C' : xM} {w w' : Nat → Int} {n : Nat} {pl : Int} (h : gP C w n pl) (hA : yA C w) (hW : yW C w) (pl0 : 0 ≤ pl) (pl1 : pl < w 8) (hr : rfA w pl) (hC : ∀ k : Nat, k ≠ 10 → k ≠ 38 → k ≠ 40 → C' k = C k) (e : ∀ i : Nat, i ≠ 8 → (i < 41724 ∨ 41784 ≤ i) → (i < 49044 ∨ 49104 ≤ i) → w' i = w i)
    (hw : ∀ c : Int, 0 ≤ c → c < w 7 → c ≠ lnA w pl → c ≠ w (41964 + lnA w pl).toNat → w' (41724 + c).toNat = w (41724 + c).toNat) (hl : ∀ j : Int, 0 ≤ j → j < pl → lnA w' j = lnA w j) (h8 : pl ≤ w' 8) : gP C' w' n pl := by
  obtain ⟨⟨p1, p2, p3, p4, p5, p6⟩, ⟨p7, p8⟩, p9, us, nd⟩ := h
  have h7 := hA.2.1
  have w5 := hW.2.2.2.2.1
  have e49 : ∀ i : Nat, i = 9 ∨ (49104 ≤ i ∧ i < 49296) ∨ (41964 ≤ i ∧ i < 42024) ∨ i = 7 → w' i = w i := fun i hi => e i (by omega) (by omega) (by omega)
  have er4 : rowU w' 0 = rowU w 0 := rowU_fr (e49 _ (by omega)) (fun k hk => e49 _ (by rw [Nat.add_zero, p2] at hk; omega))
  have ec4 : chU w' (rowU w 0) = chU w (rowU w 0) := chU_fr _ fun v hv => by
    obtain ⟨i, hi, e⟩ := List.mem_map.mp hv
    have h2 := List.mem_range.mp hi
    rw [Nat.add_zero, p2] at h2
    have z := us i (by omega)
    have e' : w (49168 + i) = v := by rw [← e]; simp
    rw [e'] at z
    exact e49 _ (by omega)
  refine ⟨⟨by rw [e49 9 (by omega)]; exact p1, by rw [e49 49104 (by omega)]; exact p2, by rw [e49 49120 (by omega)]; exact p3, by rw [e49 49136 (by omega)]; exact p4, by rw [e49 49152 (by omega)]; exact p5, p6⟩, ⟨by rw [hC 41 (by omega) (by omega) (by omega)]; exact p7, by rw [hC 41 (by omega) (by omega) (by omega)]; exact p8⟩, fun hn => by rw [hC 47 (by omega) (by omega) (by omega), hC 49 (by omega) (by omega) (by omega), hC 51 (by omega) (by omega) (by omega), hC 53 (by omega) (by omega) (by omega)]; exact p9 hn, fun i hi => ?_, by rw [er4, ec4]; exact nd⟩
  obtain ⟨v1, v2, v3, v4, v5, x, x0, x1, x2, x3⟩ := us i hi
  have n1 : w (49168 + i) ≠ lnA w pl := fun y => by
    rw [← x3] at y
    have := w5 x pl x0 x2 pl0 pl1 y
    omega
  have n2 : w (49168 + i) ≠ w (41964 + lnA w pl).toNat := fun y => by
    rcases hr.2 with z | ⟨j3, q0, q1, q2⟩
    · omega
    · rw [← x3, ← q2] at y
      have := w5 x j3 x0 x2 (by omega) q1 y
      omega
  rw [e49 (49168 + i) (by omega), e49 7 (by omega), hC 43 (by omega) (by omega) (by omega), hC 45 (by omega) (by omega) (by omega), e49 (41964 + w (49168 + i)).toNat (by omega), hw _ v3 v4 n1 n2]
  exact ⟨v1, v2, v3, v4, v5, x, x0, x1, by omega, by rw [hl x x0 x1]; exact x3⟩
def gI (ρ : Int → Int → Int) (C : xM) (w : Nat → Int) (n : Nat) (pl : Int) : Prop := yQ C w ∧ oB ρ w ∧ ySl C w 61 61 ∧ oSl ρ w 61 ∧ gP C w n pl ∧ (n = 0 → sl2 w (w 0) w 61) ∧ (n ≠ 0 → rdy w (w 49168) ∧ fit1 w (w 49168))
section
variable {sc : Nat × (Nat → Int)} {C : xM} {m : Nat → Int} {ρ : Int → Int → Int}
theorem rls_eq {m w : Nat → Int} (hA : yA C m) (hW : yW C m) (e : ∀ i : Nat, (41604 ≤ i ∧ i < 41784) ∨ (41964 ≤ i ∧ i < 42084) → w i = m i) (e2 : ∀ i : Nat, i = 8 ∨ (49044 ≤ i ∧ i < 49104) → w i = m i) {n : Nat} {i : Int} (i0 : 0 ≤ i) (i1 : i + n ≤ m 8) : rls w n i = rls m n i :=
  rls_sh n i i fun t ht => ⟨rfA_fr hA hW (by omega) (by omega) e e2, e2 _ (by have := hW.2.1; omega)⟩
theorem many_loop : ∀ (r : Nat) (C : xM) (w : Nat → Int) (n : Nat) (pl i all kk many : Int), gI ρ C w n pl → 0 ≤ pl → i + r = all → 0 ≤ i → all ≤ 60 → w 8 - pl ≤ r → 0 ≤ kk → many = kk + (rls w (w 8 - pl).toNat pl).length → many ≤ 60 →
    ∃ (C' : xM) (w' : Nat → Int) (n' : Nat) (pl' : Int), AT sc 70 4 [vR 1, vI all, vI pl, vI i, vN, vN, vN] [] (SK, C) = some (none, (SK, C')) ∧ frC C C' ∧ yQ C' w' ∧ gP C' w' n' pl' ∧ (n' ≠ 0 → rdy w' (w' 49168) ∧ fit1 w' (w' 49168)) ∧ w' 10 = w 10 ∧ w' 8 ≤ w 8 ∧ (n ≠ 0 → n' ≠ 0) ∧
      (n = 0 → ∀ u l, rls w (w 8 - pl).toNat pl = u :: l → ¬ ukd w u 2 → (n' ≠ 0 ∨ w' 8 < w 8)) ∧
      (∀ ν : xM, ν 140 = w → (∀ (t : Nat) (x : Int), (rls w (w 8 - pl).toNat pl)[t]? = some x → ν 142 (kk.toNat + t) = x) → ∃ ν' : xM, AT sc 215 8 [vR 139, vI many, vI 0, vI kk] [] (SK, ν) = AT sc 215 15 [vR 139, vN, vI 0, vN] [] (SK, ν') ∧ ν' 140 = w' ∧ frR ν ν') := by
  intro r
  induction r with
  | zero =>
    intro C w n pl i all kk many hI pl0 hi i0 all1 hr kk0 hm m60
    obtain ⟨hQ, ho, hS, hρ, hP, h61, hf⟩ := hI
    have e0 : (w 8 - pl).toNat = 0 := by omega
    rw [e0] at hm ⊢
    refine ⟨C, w, n, pl, ?_, .rf, hQ, hP, hf, rfl, Int.le_refl _, id, fun _ u l x => by simp [rls] at x, fun ν hν _ => ⟨ν, ?_, hν, .rf⟩⟩
    · rw [B70_4]
      simp (disch := omega) only [B70_22, xcI_some, xcV_some, if_pos, if_neg, xg_in, wr_of, if_true, if_false, or_true, true_or]
    · have : many = kk := by rw [hm]; simp [rls]
      rw [B215_8]
      simp (disch := omega) only [xcI_some, xcV_some, if_pos, if_neg, xg_in, wr_of, if_true, if_false, or_true, true_or]
  | succ r ih =>
    intro C w n pl i all kk many hI pl0 hi i0 all1 hr kk0 hm m60
    obtain ⟨hQ, ho, hS, hρ, hP, h61, hf⟩ := id hI
    obtain ⟨a1, a2, a3, a4, a5, a6, a7, a9, a10, a11⟩ := id hQ
    have n7 : 0 ≤ w 7 ∧ w 7 ≤ 60 := ⟨a4.1, a4.2.1⟩
    have n8 : 0 ≤ w 8 ∧ w 8 ≤ 60 := ⟨a7.1, a7.2.1⟩
    have n0 : 0 ≤ w 0 ∧ w 0 ≤ 60 ∧ C 2 3 = w 0 := a6.1
    have c8 := a7.2.2.1
    have n5 : C 1 6 = w 5 ∧ 1 ≤ w 5 ∧ w 5 ≤ 8 := a2
    have c416 := hP.2.1.1
    have nle := hP.1.2.2.2.2.2
    have w49 : w (49104 + (0 : Int)).toNat = n := hP.1.2.1
    by_cases hpl : pl < w 8
    · by_cases hlim : (n : Int) < w 5
      · have gw := a7.2.2.2.1 pl pl0 hpl
        have gl : 0 ≤ lnA w pl ∧ lnA w pl < w 7 ∧ w (41724 + lnA w pl).toNat = 1 := ⟨gw.2.1, gw.2.2.1, gw.2.2.2⟩
        have gp := (a4.2.2.2 _ gl.1 gl.2.1).2.2.2
        have k84 := K84 (sc := sc) a7 pl0 hpl
        have k66 := K66 (sc := sc) a4 a7 pl0 hpl
        obtain ⟨q, hq⟩ : ∃ q : Nat, (w 8 - pl).toNat = q + 1 := ⟨(w 8 - pl).toNat - 1, by omega⟩
        have hq2 : (w 8 - (pl + 1)).toNat = q := by omega
        rw [hq] at hm ⊢
        have k99 : EV sc 99 [vR 41] (SK, C) = some (some (vI n), (SK, C)) := by
          simp (disch := omega) only [V99, B99_0, c416, xcI_some, xcV_some, if_pos, if_neg, xg_in, wr_of, if_true, if_false, or_true, true_or]
        have head : AT sc 70 4 [vR 1, vI all, vI pl, vI i, vN, vN, vN] [] (SK, C) = AT sc 70 8 [vR 1, vI all, vI pl, vI i, vI (lnA w pl), vN, vN] [vI (bI (rfA w pl))] (SK, C) := by
          rw [B70_4]
          simp (disch := omega) only [V82, B82_0, c8, B70_5, k99, B70_6, n5.1, k84, B70_7, k66, xcI_some, xcV_some, if_pos, if_neg, xg_in, wr_of, if_true, if_false, or_true, true_or]
        by_cases hr2 : rfA w pl
        · have er : rls w (q + 1) pl = lnA w pl :: rls w q (pl + 1) := rls_t hr2
          have many1 : kk < many ∧ many = kk + 1 + (rls w q (pl + 1)).length := by
            rw [er, List.length_cons] at hm
            omega
          have k45 := K45 (sc := sc) (k := 2) a4 gl.1 gl.2.1
          rw [bI_t hr2] at head
          have m207' := fun ν : xM => fun hν : ν 140 = w => m207 (sc := sc) (k := 2) hν a4 gl.1 gl.2.1
          by_cases hw : ukd w (lnA w pl) 2
          · rw [bI_t hw] at k45
            refine ⟨C, w, n, pl, ?_, .rf, hQ, hP, hf, rfl, Int.le_refl _, id, fun _ u l x hx => ?_, fun ν hν hb => ⟨ν, ?_, hν, .rf⟩⟩
            · rw [head]
              simp (disch := omega) only [B70_8, k45, B70_9, xcI_some, xcV_some, if_pos, if_neg, xg_in, wr_of, if_true, if_false, or_true, true_or]
            · rw [er] at x
              have := (List.cons.inj x).1
              rw [← this] at hx
              exact absurd hw hx
            · have hb0 := hb 0 (lnA w pl) (by rw [er]; rfl)
              rw [Nat.add_zero] at hb0
              have m7 := m207' ν hν
              rw [bI_t hw] at m7
              rw [B215_8]
              simp (disch := omega) only [hν, w49, hb0, m7, B215_9, xcI_some, xcV_some, if_pos, if_neg, xg_in, wr_of, if_true, if_false, or_true, true_or]
          · rw [bI_f hw] at k45
            have hrd := hr2.1
            obtain ⟨b, C2, m2, hb, e1, r2, z1, z2, z3, z4, z5, z6⟩ := unit_comes (sc := sc) (yQ_J hQ) ho hS hρ (by omega) (by omega) (Or.inr rfl) (by omega) (Or.inl rfl) gl.1 gl.2.1
            have m2s : ∀ i : Nat, (i < 500 ∨ (524 ≤ i ∧ i < 20044) ∨ (21004 ≤ i ∧ i < 40524) ∨ 41484 ≤ i) → m2 i = w i := fun i hi => z2 i (by unfold aS; omega) (by unfold aS; omega)
            have hQ2 : yQ C2 m2 := yQ_W hQ (fun i hi => z2 i (aS_W (by omega) hi) (aS_W (by omega) hi)) (fun k i hi => z1 k i (dS_W (by omega) hi))
            have ho2 : oB ρ m2 := oB_W ho (yQ_J hQ) (fun i hi => z2 i (aS_W (by omega) hi) (aS_W (by omega) hi))
            have hf2 : frC C C2 := fun j hj => by
              funext i
              exact z1 j i (by unfold dS; omega)
            have c2p : ∀ k i : Nat, (k = 41 ∨ k = 43 ∨ k = 45 ∨ k = 47 ∨ k = 49 ∨ k = 51 ∨ k = 53) → C2 k i = C k i := fun k i hk => z1 k i (by unfold dS; omega)
            have hP2 : gP C2 m2 n pl := gP_fr hP n7.2 n8.2 c2p (fun i hi => m2s i (by omega))
            have el2 : ∀ j : Int, 0 ≤ j → j < w 8 → lnA m2 j = lnA w j := fun j j0 j1 => m2s _ (by omega)
            have C25 : C2 5 = C 5 := by
              funext y
              exact z1 5 y (by unfold dS; omega)
            have sts : ∀ f : Int, 0 ≤ f → f < 8 → 0 ≤ w (12 + 8 * w 0 + f).toNat ∧ w (12 + 8 * w 0 + f).toNat ≤ 24 := fun f f0 f1 => by
              have g := a6.2.2 (w 0) f n0.1 (Int.le_refl _) f0 f1
              exact ⟨g.2.1, g.2.2.1⟩
            have hl61 : ∀ f : Int, 0 ≤ f → f < 8 → 0 ≤ w (12 + 8 * 61 + f).toNat ∧ w (12 + 8 * 61 + f).toNat ≤ 24 := fun f f0 f1 => ⟨(hS f f0 f1).2.1, (hS f f0 f1).2.2.1⟩
            have lat2 : EV sc 1 [vR 2] (SK, C2) = some (some (vI (m2 0)), (SK, C2)) := by
              simp (disch := omega) only [V1, B1_0, hQ2.2.2.2.2.2.1.1.2.2, xcI_some, xcV_some, if_pos, if_neg, xg_in, wr_of, if_true, if_false, or_true, true_or]
            have rl2 : rls m2 q (pl + 1) = rls w q (pl + 1) := rls_eq a4 a7 (fun i hi => m2s i (by omega)) (fun i hi => m2s i (by omega)) (by omega) (by omega)
            rcases hb with hb | hb
            · subst hb
              have hS2 := z4 rfl
              have s61 : sl2 w 61 m2 61 := sl2_of hS hS2 (by omega) (fun k i hi => z1 k i (by unfold dS at hi ⊢; omega)) C25
              have nuft : ¬ uft w 61 (lnA w pl) := fun x => absurd (z6.mpr x) (by omega)
              obtain ⟨b', C3, m3, hb', f1, r3, y1, y2, y3, y4⟩ := fits_alone (sc := sc) (yQ_J hQ2) ho2 (Or.inr rfl) gl.1 (show lnA w pl < m2 7 by rw [m2s 7 (by omega)]; exact gl.2.1)
              have m3s : ∀ i : Nat, (i < 500 ∨ (524 ≤ i ∧ i < 20044) ∨ (21004 ≤ i ∧ i < 40524) ∨ 41484 ≤ i) → m3 i = w i := fun i hi => by rw [y2 i (by unfold aS; omega) (by unfold aS; omega), m2s i hi]
              have hQ3 : yQ C3 m3 := yQ_W hQ2 (fun i hi => y2 i (aS_W (by omega) hi) (aS_W (by omega) hi)) (fun k i hi => y1 k i (dS_W (by omega) hi))
              have ho3 : oB ρ m3 := oB_W ho2 (yQ_J hQ2) (fun i hi => y2 i (aS_W (by omega) hi) (aS_W (by omega) hi))
              have hf3 : frC C2 C3 := fun j hj => by
                funext i
                exact y1 j i (by unfold dS; omega)
              have c3p : ∀ k i : Nat, (k = 41 ∨ k = 43 ∨ k = 45 ∨ k = 47 ∨ k = 49 ∨ k = 51 ∨ k = 53) → C3 k i = C k i := fun k i hk => by rw [y1 k i (by unfold dS; omega), c2p k i hk]
              have C35 : C3 5 = C2 5 := by
                funext y
                exact y1 5 y (by unfold dS; omega)
              have s61' : sl2 m2 61 m3 61 := fun f f0 f1 => ⟨y2 _ (by unfold aS; omega) (by unfold aS; omega), fun i i0 i1 => by
                have g := (hS2 f f0 f1).2.2.1
                exact ⟨y2 _ (by unfold aS; omega) (by unfold aS; omega), y2 _ (by unfold aS; omega) (by unfold aS; omega)⟩⟩
              have s613 : sl2 w 61 m3 61 := fun f f0 f1 => slE_tr (s61 f f0 f1) (s61' f f0 f1)
              have hS3 : ySl C3 m3 61 61 := fun f f0 f1 => yF_C (slE_yF (hS2 f f0 f1) (s61' f f0 f1) (y2 1 (by unfold aS; omega) (by unfold aS; omega))) (by omega) f0 f1 (fun k i hi => y1 k i (by unfold dS at hi ⊢; omega)) C35
              have hρ3 : oSl ρ m3 61 := fun f f0 f1 => by
                rw [slE_fi (s613 f f0 f1)]
                exact hρ f f0 f1
              have hP3 : gP C3 m3 n pl := gP_fr hP n7.2 n8.2 c3p (fun i hi => m3s i (by omega))
              have lst : ∀ f : Int, 0 ≤ f → f < 8 → slE w m3 (w 0) (w 0) f := fun f f0 f1 => by
                have g := sts f f0 f1
                exact ⟨m3s _ (by omega), fun i i0 i1 => ⟨m3s _ (by omega), m3s _ (by omega)⟩⟩
              have h613 : n = 0 → sl2 m3 (m3 0) m3 61 := fun hn f f0 f1 => by
                rw [m3s 0 (by omega)]
                exact slE_tr (slE_sy (lst f f0 f1)) (slE_tr (h61 hn f f0 f1) (s613 f f0 f1))
              have hf3' : n ≠ 0 → rdy m3 (m3 49168) ∧ fit1 m3 (m3 49168) := fun hn => by
                have z := hf hn
                have ur := hP.2.2.2.1 0 (by omega)
                rw [Nat.add_zero] at ur
                rw [m3s 49168 (by omega)]
                exact ⟨(rdy_fr a4 ur.2.2.1 ur.2.2.2.1 (fun i hi => m3s i (by omega))).mpr z.1, fit1_fr z.2 (m3s 0 (by omega)) ⟨n0.1, n0.2.1⟩ sts (fun i hi => by unfold aS at hi; exact m3s i (by omega)) (fun i hi => m3s i (by omega))⟩
              have el3 : ∀ j : Int, 0 ≤ j → j < w 8 → lnA m3 j = lnA w j := fun j j0 j1 => m3s _ (by omega)
              have rl3 : rls m3 q (pl + 1) = rls w q (pl + 1) := rls_eq a4 a7 (fun i hi => m3s i (by omega)) (fun i hi => m3s i (by omega)) (by omega) (by omega)
              rcases hb' with hb' | hb'
              · subst hb'
                have hp3 : m3 (41964 + lnA w pl).toNat = -1 ∨ m3 (41724 + m3 (41964 + lnA w pl).toNat).toNat = 1 := by
                  rw [m3s (41964 + lnA w pl).toNat (by omega)]
                  rcases hrd.2 with y | y
                  · exact Or.inl y
                  · right
                    rw [m3s _ (by omega)]
                    exact y.1
                have hr3 : rfA m3 pl := (rfA_fr a4 a7 pl0 hpl (fun i hi => m3s i (by omega)) (fun i hi => m3s i (by omega))).mpr hr2
                obtain ⟨C4, m4, g1, _, g2, g3, g4, g5, g6, g7, g8, g9, g10, g11, g12, g13, g14⟩ := unit_out (sc := sc) (w := 5) hQ3 gl.1 (by rw [m3s 7 (by omega)]; exact gl.2.1) pl0 (by rw [m3s 8 (by omega)]; exact hpl) (el3 pl pl0 hpl) (by omega) (by omega) hp3
                have ts : tsM m4 (lnA w pl) (m3 (41964 + lnA w pl).toNat) (-1) = m4 := tsM_same (by
                  rw [g8 _ (by omega) (by omega) (by omega)]
                  exact hQ3.2.2.2.2.2.2.2.2.2.2 _ gl.1 (by rw [m3s 7 (by omega)]; exact gl.2.1) (Or.inr (by rw [m3s _ (by omega)]; exact gl.2.2))) (fun y => by
                  have z := hp3.elim (fun x => absurd x y) id
                  rw [m3s (41964 + lnA w pl).toNat (by omega)] at y z ⊢
                  rw [g8 _ (by omega) (by omega) (by omega)]
                  exact hQ3.2.2.2.2.2.2.2.2.2.2 _ (by omega) (by rw [m3s 7 (by omega)]; omega) (Or.inr z))
                have r4 := g5 (-1)
                rw [ts] at r4
                have m4s : ∀ i : Nat, i ≠ 8 → (i < 41724 ∨ 41784 ≤ i) → (i < 49044 ∨ 49104 ≤ i) → (i < 500 ∨ (524 ≤ i ∧ i < 20044) ∨ (21004 ≤ i ∧ i < 40524) ∨ 41484 ≤ i) → m4 i = w i := fun i h1 h2 h3 h4 => by rw [g8 i h1 h2 h3, m3s i h4]
                have C45 : ∀ k : Nat, k ≠ 10 → k ≠ 38 → k ≠ 40 → C4 k = C3 k := g3
                have s614 : sl2 m3 61 m4 61 := fun f f0 f1 => by
                  have g := (hS3 f f0 f1).2.2.1
                  exact ⟨g8 _ (by omega) (by omega) (by omega), fun i i0 i1 => ⟨g8 _ (by omega) (by omega) (by omega), g8 _ (by omega) (by omega) (by omega)⟩⟩
                have hS4 : ySl C4 m4 61 61 := fun f f0 f1 => yF_eq (slE_yF (hS3 f f0 f1) (s614 f f0 f1) (g8 1 (by omega) (by omega) (by omega))) (g3 3 (by omega) (by omega) (by omega)) (g3 4 (by omega) (by omega) (by omega)) (g3 5 (by omega) (by omega) (by omega))
                have hρ4 : oSl ρ m4 61 := fun f f0 f1 => by
                  rw [slE_fi (s614 f f0 f1)]
                  exact hρ3 f f0 f1
                have ho4 : oB ρ m4 := oB_fr ho3 (yQ_J hQ3) (fun i hi => g8 i (by omega) (by omega) (by omega))
                have hP4 : gP C4 m4 n pl := gP_out hP3 hQ3.2.2.2.1 hQ3.2.2.2.2.2.2.1 pl0 (by rw [m3s 8 (by omega)]; exact hpl) hr3 g3 g8 (fun c c0 c1 h1 h2 => g9 c c0 c1 (by rw [el3 pl pl0 hpl] at h1; exact h1) (by rw [el3 pl pl0 hpl] at h2; exact h2)) (fun j j0 j1 => g12 j j0 j1 hr3) (g14 hr3)
                have h614 : n = 0 → sl2 m4 (m4 0) m4 61 := fun hn f f0 f1 => by
                  have g := sts f f0 f1
                  rw [g8 0 (by omega) (by omega) (by omega)]
                  have x : slE m3 m4 (m3 0) (m3 0) f := by
                    rw [m3s 0 (by omega)]
                    exact ⟨g8 _ (by omega) (by omega) (by omega), fun i i0 i1 => by rw [m3s _ (by omega)] at i1; exact ⟨g8 _ (by omega) (by omega) (by omega), g8 _ (by omega) (by omega) (by omega)⟩⟩
                  exact slE_tr (slE_sy x) (slE_tr (h613 hn f f0 f1) (s614 f f0 f1))
                have hf4' : n ≠ 0 → rdy m4 (m4 49168) ∧ fit1 m4 (m4 49168) := fun hn => by
                  obtain ⟨z1', z2'⟩ := hf3' hn
                  obtain ⟨v1, v2, v3, v4, v5, x, x0, x1, x2, x3⟩ := hP3.2.2.2.1 0 (by omega)
                  rw [Nat.add_zero] at v1 v2 v3 v4 v5 x3
                  have e4 : m4 49168 = m3 49168 := g8 _ (by omega) (by omega) (by omega)
                  have w7 : m3 7 = w 7 := m3s 7 (by omega)
                  have w8' : m3 8 = w 8 := m3s 8 (by omega)
                  have b4 := hQ3.2.2.2.1
                  have b7 := hQ3.2.2.2.2.2.2.1
                  have gv := (b4.2.2.2 _ v3 v4).2.2.2
                  rw [e4]
                  have oth : ∀ c : Int, 0 ≤ c → c < m3 7 → c ≠ lnA w pl → c ≠ m3 (41964 + lnA w pl).toNat → (fre m4 c ↔ fre m3 c) := fun c c0 c1 h1 h2 => by
                    unfold fre
                    rw [g9 c c0 c1 h1 h2, g8 (41604 + c).toNat (by omega) (by omega) (by omega), g8 (42024 + c).toNat (by omega) (by omega) (by omega)]
                  have n1 : m3 49168 ≠ lnA w pl := fun y => by
                    rw [← x3, ← el3 pl pl0 hpl] at y
                    have := b7.2.2.2.2.1 x pl x0 x2 pl0 (by omega) y
                    omega
                  have n2 : m3 49168 ≠ m3 (41964 + lnA w pl).toNat := fun y => by
                    rcases hr3.2 with z | ⟨j3, q0, q1, q2⟩
                    · rw [el3 pl pl0 hpl] at z; omega
                    · rw [el3 pl pl0 hpl] at q2
                      rw [← x3, ← q2] at y
                      have := b7.2.2.2.2.1 x j3 x0 x2 (by omega) q1 y
                      omega
                  have gpl := (b4.2.2.2 (lnA w pl) gl.1 (by omega)).2.2.2
                  refine ⟨?_, fit1_fr z2' (g8 0 (by omega) (by omega) (by omega)) (by rw [m3s 0 (by omega)]; exact ⟨n0.1, n0.2.1⟩) (fun f f0 f1 => by rw [m3s 0 (by omega), m3s _ (by omega)]; exact sts f f0 f1) (fun i hi => by rw [m3s 0 (by omega)] at hi; unfold aS at hi; exact g8 i (by omega) (by omega) (by omega)) (fun i hi => g8 i (by omega) (by omega) (by omega))⟩
                  unfold rdy at z1' ⊢
                  rw [g8 (41964 + m3 49168).toNat (by omega) (by omega) (by omega), oth _ v3 v4 n1 n2]
                  refine ⟨z1'.1, ?_⟩
                  rcases z1'.2 with y | y
                  · exact Or.inl y
                  · right
                    by_cases yp : m3 (41964 + m3 49168).toNat = -1
                    · have y1 := y.1
                      have e0 := gv.elim (fun q => q) (fun q => absurd q.1 (by omega))
                      rw [yp] at y ⊢
                      unfold fre at y ⊢
                      rw [show ((41724 : Int) + -1).toNat = 41723 from rfl, show ((41604 : Int) + -1).toNat = 41603 from rfl, show ((42024 : Int) + -1).toNat = 42023 from rfl] at y ⊢
                      rw [g8 41723 (by omega) (by omega) (by omega), g8 41603 (by omega) (by omega) (by omega), g8 42023 (by omega) (by omega) (by omega)]
                      exact y
                    · have gv' := gv.elim (fun q => absurd q yp) id
                      refine (oth _ gv'.1 gv'.2.1 (fun q => ?_) (fun q => ?_)).mpr y
                      · have r1 := gv'.2.2.2
                        rw [q] at r1
                        exact n2 r1.symm
                      · have r2 : m3 (41964 + lnA w pl).toNat ≠ -1 := by omega
                        have gpl' := gpl.elim (fun z => absurd z r2) id
                        have r1 := gv'.2.2.2
                        rw [q, gpl'.2.2.2] at r1
                        exact n1 r1.symm
                have g6' : m4 8 < w 8 := by rw [m3s 8 (by omega)] at g6; exact g6
                have rl4 : rls m4 (m4 8 - pl).toNat pl = rls w q (pl + 1) := by
                  rw [g13 hr3, m3s 8 (by omega), show (w 8 - pl - 1).toNat = q by omega, rl3]
                obtain ⟨C', w', n', pl', o1, o2, o3, o4, o5, o6, o7, o8, o9, o10⟩ := ih C4 m4 n pl (i + 1) all (kk + 1) many ⟨g4, ho4, hS4, hρ4, hP4, h614, hf4'⟩ pl0 (by omega) (by omega) all1 (by omega) (by omega) (by rw [rl4]; exact many1.2) m60
                refine ⟨C', w', n', pl', ?_, hf2.tr (hf3.tr (g2.tr o2)), o3, o4, o5, by rw [o6, g8 10 (by omega) (by omega) (by omega), m3s 10 (by omega)], by omega, o8, fun _ _ _ _ _ => Or.inr (by omega), fun ν hν hb => ?_⟩
                · rw [head]
                  simp (disch := omega) only [B70_8, k45, B70_9, B70_10, e1, B70_11, B70_12, B70_13, B70_16, lat2, B70_17, f1, B70_18, g1, B70_19, B70_21, o1, xcI_some, xcV_some, if_pos, if_neg, xg_in, wr_of, if_true, if_false, or_true, true_or]
                · have hb0 := hb 0 (lnA w pl) (by rw [er]; rfl)
                  rw [Nat.add_zero] at hb0
                  have m7 := m207' ν hν
                  rw [bI_f hw] at m7
                  obtain ⟨ν1, v1, v2, v3⟩ := r2 ν hν
                  obtain ⟨ν2, v4, v5, v6⟩ := r3 ν1 v2
                  obtain ⟨ν3, v7, v8, v9⟩ := r4 ν2 v5
                  have v1' : EV sc 208 [vR 139, vI (lnA w pl), vI 61] (SK, ν) = some (some (vI 0), (SK, ν1)) := v1
                  have v4' : EV sc 209 [vR 139, vI (lnA w pl)] (SK, ν1) = some (some (vI 0), (SK, ν2)) := v4
                  have v7' : EV sc 210 [vR 139, vI (lnA w pl), vI 5, vI (-1)] (SK, ν2) = some (none, (SK, ν3)) := v7
                  have b1 : ν1 142 kk.toNat = lnA w pl := by rw [v3 142 (by omega)]; exact hb0
                  have b2 : ν2 142 kk.toNat = lnA w pl := by rw [v6 142 (by omega)]; exact b1
                  obtain ⟨ν4, t1, t2, t3⟩ := o10 ν3 v8 (fun t x hx => by
                    rw [rl4] at hx
                    have z := hb (t + 1) x (by rw [er]; exact hx)
                    rw [v9 142 (by omega), v6 142 (by omega), v3 142 (by omega), ← z]
                    congr 1
                    omega)
                  refine ⟨ν4, ?_, t2, v3.tr (v6.tr (v9.tr t3))⟩
                  rw [B215_8]
                  clear hb
                  simp (disch := omega) only [hν, w49, hb0, m7, B215_9, v1', B215_10, B215_12, b1, v4', B215_13, b2, v7', B215_14, t1, xcI_some, xcV_some, if_pos, if_neg, xg_in, wr_of, if_true, if_false, or_true, true_or]
              · subst hb'
                obtain ⟨C', w', n', pl', o1, o2, o3, o4, o5, o6, o7, o8, o9, o10⟩ := ih C3 m3 n (pl + 1) (i + 1) all (kk + 1) many ⟨hQ3, ho3, hS3, hρ3, gP_mono hP3 (by omega), h613, hf3'⟩ (by omega) (by omega) (by omega) all1 (by rw [m3s 8 (by omega)]; omega) (by omega) (by rw [m3s 8 (by omega), hq2, rl3]; exact many1.2) m60
                rw [m3s 8 (by omega), hq2, rl3] at o9 o10
                have prog : n = 0 → False := fun hn => by
                  have x1 := (y4 61 (by omega) (by omega) (fun f f0 f1 => by
                    have y := h61 hn f f0 f1
                    rw [m2s 0 (by omega)]
                    have g := sts f f0 f1
                    have x : slE w m2 (w 0) (w 0) f := ⟨m2s _ (by omega), fun i i0 i1 => ⟨m2s _ (by omega), m2s _ (by omega)⟩⟩
                    exact slE_tr (slE_sy x) (slE_tr y (s61 f f0 f1)))).mp rfl
                  exact nuft ((uft_sl (yQ_J hQ) hl61 s61 (fun i hi => m2s i (by omega)) (Or.inl rfl) (by omega) (by omega) gl.1 gl.2.1).mpr x1)
                refine ⟨C', w', n', pl', ?_, hf2.tr (hf3.tr o2), o3, o4, o5, by rw [o6, m3s 10 (by omega)], by rw [m3s 8 (by omega)] at o7; exact o7, o8, fun hn => absurd hn (fun x => prog x), fun ν hν hb => ?_⟩
                · rw [head]
                  simp (disch := omega) only [B70_8, k45, B70_9, B70_10, e1, B70_11, B70_12, B70_13, B70_16, lat2, B70_17, f1, B70_18, B70_20, B70_21, o1, xcI_some, xcV_some, if_pos, if_neg, xg_in, wr_of, if_true, if_false, or_true, true_or]
                · have hb0 := hb 0 (lnA w pl) (by rw [er]; rfl)
                  rw [Nat.add_zero] at hb0
                  have m7 := m207' ν hν
                  rw [bI_f hw] at m7
                  obtain ⟨ν1, v1, v2, v3⟩ := r2 ν hν
                  obtain ⟨ν2, v4, v5, v6⟩ := r3 ν1 v2
                  have v1' : EV sc 208 [vR 139, vI (lnA w pl), vI 61] (SK, ν) = some (some (vI 0), (SK, ν1)) := v1
                  have v4' : EV sc 209 [vR 139, vI (lnA w pl)] (SK, ν1) = some (some (vI 1), (SK, ν2)) := v4
                  have b1 : ν1 142 kk.toNat = lnA w pl := by rw [v3 142 (by omega)]; exact hb0
                  obtain ⟨ν4, t1, t2, t3⟩ := o10 ν2 v5 (fun t x hx => by
                    have z := hb (t + 1) x (by rw [er]; exact hx)
                    rw [v6 142 (by omega), v3 142 (by omega), ← z]
                    congr 1
                    omega)
                  refine ⟨ν4, ?_, t2, v3.tr (v6.tr t3)⟩
                  rw [B215_8]
                  clear hb
                  simp (disch := omega) only [hν, w49, hb0, m7, B215_9, v1', B215_10, B215_12, b1, v4', B215_13, B215_14, t1, xcI_some, xcV_some, if_pos, if_neg, xg_in, wr_of, if_true, if_false, or_true, true_or]
            · subst hb
              have hS2 := z3 rfl
              have k14 := K14 (sc := sc) (μ := C2) (s := 62) (t := 61) (by omega) (by omega) (by omega) (by omega)
              have k14' : EV sc 14 [vR 2, vI 62, vI 61] (SK, C2) = some (none, (SK, cpC C2 62 61)) := k14
              have c3p : ∀ k i : Nat, (k = 41 ∨ k = 43 ∨ k = 45 ∨ k = 47 ∨ k = 49 ∨ k = 51 ∨ k = 53) → cpC C2 62 61 k i = C k i := fun k i hk => by rw [cpC_ne (by omega) (by unfold dS; omega), c2p k i hk]
              have hQ3 : yQ (cpC C2 62 61) m2 := yQ_W hQ2 (fun _ _ => rfl) (fun k i hi => cpC_ne (by omega) (dS_W (by omega) hi))
              have hf3 : frC C2 (cpC C2 62 61) := fun j hj => by
                funext i
                exact cpC_ne (by omega) (by unfold dS; omega)
              have hS3 : ySl (cpC C2 62 61) m2 61 61 := fun f f0 f1 => cpC_yF (hS2 f f0 f1) (by omega) (by omega) f0 f1
              have hP3 : gP (cpC C2 62 61) m2 n pl := gP_fr hP n7.2 n8.2 c3p (fun i hi => m2s i (by omega))
              have hr3 : rfA m2 pl := (rfA_fr a4 a7 pl0 hpl (fun i hi => m2s i (by omega)) (fun i hi => m2s i (by omega))).mpr hr2
              have n8' : n < 8 := by omega
              have gA := gP_add hP3 hQ3.2.2.2.1 hQ3.2.2.2.2.2.2.1 n8' pl0 (by rw [m2s 8 (by omega)]; exact hpl) hr3
              rw [el2 pl pl0 hpl] at gA
              have q34u := q34 (sc := sc) hQ3.2.2.2.1 gl.1 (show lnA w pl < m2 7 by rw [m2s 7 (by omega)]; exact gl.2.1)
              have k109 := K109g (sc := sc) (u := lnA w pl) (t := m2 (41964 + lnA w pl).toNat) hP3 n8'
              have r213 := m213 (sc := sc) (m := m2) (u := lnA w pl) (r := 0) (n := n) hP3.1.1 (Int.le_refl _) (by omega) hP3.1.2.1 (by omega) (by omega)
              have an : ∀ i : Nat, (i ≠ 9 ∧ (i < 49104 ∨ 49296 ≤ i)) → auM m2 0 n (lnA w pl) i = m2 i := fun i hi => by
                unfold auM
                rw [up1_ne (by omega), up1_ne (by omega)]
              have hQ4 : yQ (if n = 0 then adC0 (cpC C2 62 61) (lnA w pl) (m2 (41964 + lnA w pl).toNat) else adC (cpC C2 62 61) n (lnA w pl) (m2 (41964 + lnA w pl).toNat)) (auM m2 0 n (lnA w pl)) := yQ_fr hQ3 an (fun k i hk => adC_ne hk)
              have adk : ∀ k : Nat, (k ≠ 41 ∧ k ≠ 43 ∧ k ≠ 45 ∧ k ≠ 47 ∧ k ≠ 49 ∧ k ≠ 51 ∧ k ≠ 53) → (if n = 0 then adC0 (cpC C2 62 61) (lnA w pl) (m2 (41964 + lnA w pl).toNat) else adC (cpC C2 62 61) n (lnA w pl) (m2 (41964 + lnA w pl).toNat)) k = cpC C2 62 61 k := fun k hk => by
                funext i
                exact adC_ne hk
              have sAu : sl2 m2 61 (auM m2 0 n (lnA w pl)) 61 := fun f f0 f1 => by
                have g := (hS3 f f0 f1).2.2.1
                exact ⟨an _ (by omega), fun i i0 i1 => ⟨an _ (by omega), an _ (by omega)⟩⟩
              have hS4 : ySl (if n = 0 then adC0 (cpC C2 62 61) (lnA w pl) (m2 (41964 + lnA w pl).toNat) else adC (cpC C2 62 61) n (lnA w pl) (m2 (41964 + lnA w pl).toNat)) (auM m2 0 n (lnA w pl)) 61 61 := fun f f0 f1 => yF_eq (slE_yF (hS3 f f0 f1) (sAu f f0 f1) (an 1 (by omega))) (adk 3 (by omega)) (adk 4 (by omega)) (adk 5 (by omega))
              have hρ4 : oSl ρ (auM m2 0 n (lnA w pl)) 61 := fun f f0 f1 => by
                rw [slE_fi (sAu f f0 f1)]
                exact z5 f f0 f1
              have ho4 : oB ρ (auM m2 0 n (lnA w pl)) := oB_fr ho2 (yQ_J hQ2) (fun i hi => an i (by omega))
              have anw : ∀ i : Nat, (i ≠ 9 ∧ (i < 49104 ∨ 49296 ≤ i)) → (i < 500 ∨ (524 ≤ i ∧ i < 20044) ∨ (21004 ≤ i ∧ i < 40524) ∨ 41484 ≤ i) → auM m2 0 n (lnA w pl) i = w i := fun i h1 h2 => by rw [an i h1, m2s i h2]
              have hf4 : n + 1 ≠ 0 → rdy (auM m2 0 n (lnA w pl)) (auM m2 0 n (lnA w pl) 49168) ∧ fit1 (auM m2 0 n (lnA w pl)) (auM m2 0 n (lnA w pl) 49168) := fun _ => by
                have fr : ∀ u : Int, 0 ≤ u → u < w 7 → rdy w u → fit1 w u → rdy (auM m2 0 n (lnA w pl)) u ∧ fit1 (auM m2 0 n (lnA w pl)) u := fun u u0 u1 x1 x2 => ⟨(rdy_fr a4 u0 u1 (fun i hi => anw i (by omega) (by omega))).mpr x1, fit1_fr x2 (anw 0 (by omega) (by omega)) ⟨n0.1, n0.2.1⟩ sts (fun i hi => by unfold aS at hi; exact anw i (by omega) (by omega)) (fun i hi => anw i (by omega) (by omega))⟩
                by_cases hn : n = 0
                · have e168 : auM m2 0 n (lnA w pl) 49168 = lnA w pl := by
                    rw [hn]
                    unfold auM
                    rw [up1_ne (by omega)]
                    exact up1_eq
                  rw [e168]
                  exact fr _ gl.1 gl.2.1 hrd (fit1_of (yQ_J hQ) (Or.inl rfl) hl61 gl.1 gl.2.1 (h61 hn) (fun _ _ => rfl) (z6.mp rfl))
                · have e168 : auM m2 0 n (lnA w pl) 49168 = w 49168 := by
                    unfold auM
                    rw [up1_ne (by omega), up1_ne (by omega), m2s 49168 (by omega)]
                  rw [e168]
                  obtain ⟨v1, v2, v3, v4, v5, _⟩ := hP.2.2.2.1 0 (by omega)
                  rw [Nat.add_zero] at v3 v4
                  exact fr _ v3 v4 (hf hn).1 (hf hn).2
              have rl4 : rls (auM m2 0 n (lnA w pl)) q (pl + 1) = rls w q (pl + 1) := rls_eq a4 a7 (fun i hi => anw i (by omega) (by omega)) (fun i hi => anw i (by omega) (by omega)) (by omega) (by omega)
              have a8 : auM m2 0 n (lnA w pl) 8 = w 8 := anw 8 (by omega) (by omega)
              obtain ⟨C', w', n', pl', o1, o2, o3, o4, o5, o6, o7, o8, o9, o10⟩ := ih _ (auM m2 0 n (lnA w pl)) (n + 1) (pl + 1) (i + 1) all (kk + 1) many ⟨hQ4, ho4, hS4, hρ4, gA, fun x => absurd x (by omega), hf4⟩ (by omega) (by omega) (by omega) all1 (by rw [a8]; omega) (by omega) (by rw [a8, hq2, rl4]; exact many1.2) m60
              rw [a8, hq2, rl4] at o9 o10
              refine ⟨C', w', n', pl', ?_, hf2.tr (hf3.tr ((adC_fr).tr o2)), o3, o4, o5, by rw [o6, anw 10 (by omega) (by omega)], by rw [a8] at o7; exact o7, fun _ => o8 (by omega), fun _ _ _ _ _ => Or.inl (o8 (by omega)), fun ν hν hb => ?_⟩
              · rw [head]
                simp (disch := omega) only [B70_8, k45, B70_9, B70_10, e1, B70_11, B70_13, k14', B70_14, q34u, B70_15, k109, B70_16, B70_20, B70_21, o1, xcI_some, xcV_some, if_pos, if_neg, xg_in, wr_of, if_true, if_false, or_true, true_or]
              · have hb0 := hb 0 (lnA w pl) (by rw [er]; rfl)
                rw [Nat.add_zero] at hb0
                have m7 := m207' ν hν
                rw [bI_f hw] at m7
                obtain ⟨ν1, v1, v2, v3⟩ := r2 ν hν
                obtain ⟨ν2, v4, v5, v6⟩ := r213 ν1 v2
                have v1' : EV sc 208 [vR 139, vI (lnA w pl), vI 61] (SK, ν) = some (some (vI 1), (SK, ν1)) := v1
                have v4' : EV sc 213 [vR 139, vI (lnA w pl)] (SK, ν1) = some (none, (SK, ν2)) := v4
                have b1 : ν1 142 kk.toNat = lnA w pl := by rw [v3 142 (by omega)]; exact hb0
                obtain ⟨ν4, t1, t2, t3⟩ := o10 ν2 v5 (fun t x hx => by
                  have z := hb (t + 1) x (by rw [er]; exact hx)
                  rw [v6 142 (by omega), v3 142 (by omega), ← z]
                  congr 1
                  omega)
                refine ⟨ν4, ?_, t2, v3.tr (v6.tr t3)⟩
                rw [B215_8]
                clear hb
                simp (disch := omega) only [hν, w49, hb0, m7, B215_9, v1', B215_10, b1, v4', B215_11, B215_14, t1, xcI_some, xcV_some, if_pos, if_neg, xg_in, wr_of, if_true, if_false, or_true, true_or]
        · have er : rls w (q + 1) pl = rls w q (pl + 1) := rls_f hr2
          rw [bI_f hr2] at head
          rw [er] at hm ⊢
          obtain ⟨C', w', n', pl', o1, o2, o3, o4, o5, o6, o7, o8, o9, o10⟩ := ih C w n (pl + 1) (i + 1) all kk many ⟨hQ, ho, hS, hρ, gP_mono hP (by omega), h61, hf⟩ (by omega) (by omega) (by omega) all1 (by omega) kk0 (by rw [hq2]; exact hm) m60
          rw [hq2] at o9 o10
          refine ⟨C', w', n', pl', ?_, o2, o3, o4, o5, o6, o7, o8, o9, o10⟩
          rw [head]
          simp (disch := omega) only [B70_8, B70_10, B70_12, B70_13, B70_16, B70_20, B70_21, o1, xcI_some, xcV_some, if_pos, if_neg, xg_in, wr_of, if_true, if_false, or_true, true_or]
      · have k99 : EV sc 99 [vR 41] (SK, C) = some (some (vI n), (SK, C)) := by
          simp (disch := omega) only [V99, B99_0, c416, xcI_some, xcV_some, if_pos, if_neg, xg_in, wr_of, if_true, if_false, or_true, true_or]
        refine ⟨C, w, n, pl, ?_, .rf, hQ, hP, hf, rfl, Int.le_refl _, id, fun hn => by omega, fun ν hν _ => ⟨ν, ?_, hν, .rf⟩⟩
        · rw [B70_4]
          simp (disch := omega) only [V82, B82_0, c8, B70_5, k99, B70_6, n5.1, B70_22, xcI_some, xcV_some, if_pos, if_neg, xg_in, wr_of, if_true, if_false, or_true, true_or]
        · rw [B215_8]
          by_cases hmk : kk < many
          · simp (disch := omega) only [hν, w49, xcI_some, xcV_some, if_pos, if_neg, xg_in, wr_of, if_true, if_false, or_true, true_or]
          · simp (disch := omega) only [xcI_some, xcV_some, if_pos, if_neg, xg_in, wr_of, if_true, if_false, or_true, true_or]
    · have e0 : (w 8 - pl).toNat = 0 := by omega
      rw [e0] at hm ⊢
      refine ⟨C, w, n, pl, ?_, .rf, hQ, hP, hf, rfl, Int.le_refl _, id, fun _ u l x => by simp [rls] at x, fun ν hν _ => ⟨ν, ?_, hν, .rf⟩⟩
      · rw [B70_4]
        simp (disch := omega) only [V82, B82_0, c8, B70_5, B70_22, xcI_some, xcV_some, if_pos, if_neg, xg_in, wr_of, if_true, if_false, or_true, true_or]
      · have : many = kk := by rw [hm]; simp [rls]
        rw [B215_8]
        simp (disch := omega) only [xcI_some, xcV_some, if_pos, if_neg, xg_in, wr_of, if_true, if_false, or_true, true_or]
end

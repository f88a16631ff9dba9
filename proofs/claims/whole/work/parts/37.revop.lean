/-! revert, the call -/
theorem yK_C {C C' : xM} {m : Nat → Int} (h : yK C m) (eC : ∀ k i : Nat, (((k ≠ 8 ∧ k ≠ 10 ∧ k ≠ 12 ∧ k ≠ 14 ∧ k ≠ 16 ∧ k ≠ 18 ∧ k ≠ 20 ∧ k ≠ 22) ∨ (i : Int) < m 7) ∧ ((k ≠ 25 ∧ k ≠ 27 ∧ k ≠ 29 ∧ k ≠ 31 ∧ k ≠ 33) ∨ (i : Int) < 4 * m 7) ∧ ((k ≠ 35 ∧ k ≠ 37) ∨ (i : Int) < 24 * m 7)) → C' k i = C k i) : yK C' m := by
  obtain ⟨a1, a2, a3, a4, a5, a6, a7, a8, a9, a10, a11⟩ := h
  have n7 : 0 ≤ m 7 ∧ m 7 ≤ 60 := ⟨a4.1, a4.2.1⟩
  have e : ∀ i : Nat, 0 ≤ i → m i = m i := fun i _ => rfl
  exact ⟨yT_fr a1 (fun k i hk => eC k i (by unfold dT at hk; omega)) (fun i hi => e i (by unfold aT at hi; omega)), yL_fr a2 (eC 1 6 (by omega)) (e 5 (by omega)), yG_fr a3 (fun k i hk => eC k i (by omega)) (fun i hi => e i (by omega)), yA_fr a4 (fun k i hk => eC k i (by unfold dA at hk; omega)) (fun i hi => e i (by unfold aA at hi; omega)), yE_fr a5 a4 (fun k i hk => eC k i (by unfold dE at hk; omega)) (fun i _ _ => eC 5 i (by omega)) (by rw [e 1 (by omega)]; exact Int.le_refl _) (fun i hi => e i (by unfold aE at hi; omega)), yB_fr a6 ⟨eC 2 3 (by omega), eC 2 4 (by omega)⟩ ⟨e 0 (by omega), e 1 (by omega)⟩ (fun s _ _ k i hk => eC k i (by unfold dS at hk; omega)) (fun i _ _ => eC 5 i (by omega)) (fun s _ _ i hi => e i (by unfold aS at hi; omega)), yW_fr a7 ⟨a4.1, a4.2.1⟩ (fun k i hk => eC k i (by omega)) (fun i hi => e i (by omega)), yP_fr a8 (by rw [e 7 (by omega)]; exact Int.le_refl _) (fun k i hk => eC k i (by omega)) (fun i hi => e i (by omega)) (fun u u0 u1 _ => e (41964 + u).toNat (by omega)) (fun u u0 u1 h => by rw [e (41724 + u).toNat (by omega)]; exact h), yO_fr a9 a4 a6 a5 ⟨e 0 (by omega), e 7 (by omega)⟩ (fun s _ _ i hi => e i (by unfold aS at hi; omega)) (fun i hi => e i (by omega)), yM_fr a10 a4 (fun i hi => e i (by omega)), yN_fr a11 a4 (fun i hi => e i (by omega)) (fun u u0 u1 h => by rw [e (41724 + u).toNat (by omega)]; exact h) (fun u u0 u1 h => by rw [e (41724 + u).toNat (by omega)] at h; exact h)⟩
/-- an edit's lines turned -/
theorem yEe_tn {C C' : xM} {m m' : Nat → Int} {x y : Int} (h : yEe C m x) (hc : tnC C C' x y) (hm : tnM m m' x y) (h5 : C' 5 = C 5) (h1 : m' 1 = m 1) : yEe C' m' y := by
  obtain ⟨⟨g1, g2, g3, g4, g5⟩, ⟨f1, f2, f3, f4, f5, f6, f7, f8, f9, f10⟩, p1, p2⟩ := h
  obtain ⟨c1, c2, c3, c4, c5, c6⟩ := hc
  obtain ⟨m1, m2, m3, m4, m5, m6⟩ := hm
  unfold yEe
  rw [c1, c2, c3, c4, c5, m1, m2, m3, m4, m5, h1]
  refine ⟨⟨g1, g2, g3, g5, g4⟩, ⟨f1, f2, f5, f6, f3, f4, f7, f8, f9, f10⟩, fun i i0 i1 => ?_, fun i i0 i1 => ?_⟩
  · have q := p2 i i0 i1
    obtain ⟨r1, r2, r3, r4⟩ := m6 i i0 (by omega)
    rw [(c6 i i0 (by omega)).1, r1, r2, h5, h1]
    exact q
  · have q := p1 i i0 i1
    obtain ⟨r1, r2, r3, r4⟩ := m6 i i0 (by omega)
    rw [(c6 i i0 (by omega)).2, r3, r4, h5, h1]
    exact q
theorem yOk_tn {ρ : Int → Int → Int} {m m' : Nat → Int} {x y : Int} (h : yOk ρ m x) (hm : tnM m m' x y) (f4 : m (42324 + x).toNat ≤ 6) (f6 : m (42564 + x).toNat ≤ 6) : yOk ρ m' y := by
  obtain ⟨m1, m2, m3, m4, m5, m6⟩ := hm
  have e1 : mkL m' (43284 + 6 * y) (m (42564 + x).toNat) = mkL m (46164 + 6 * x) (m (42564 + x).toNat) := by
    unfold mkL
    exact List.map_congr_left fun k hk => (m6 (k : Int) (by omega) (by have := List.mem_range.mp hk; omega)).1
  have e2 : mkL m' (46164 + 6 * y) (m (42324 + x).toNat) = mkL m (43284 + 6 * x) (m (42324 + x).toNat) := by
    unfold mkL
    exact List.map_congr_left fun k hk => (m6 (k : Int) (by omega) (by have := List.mem_range.mp hk; omega)).2.2.1
  unfold yOk at h ⊢
  rw [m1, m2, m3, m4, m5, e1, e2]
  exact ⟨h.2, h.1⟩
section
variable {sc : Nat × (Nat → Int)} {μ : xM}
theorem op_revert (h : yAll μ) {c : Int} : yOp sc 140 192 [vI c] μ := by
  obtain ⟨⟨a1, a2, a3, a4, a5, a6, a7, a8, a9, a10, a11⟩, hk⟩ := id h
  have n6 := a1.1
  have n3 := a1.2.1
  have n5 := a2.2
  have n10 : 0 ≤ μ 140 10 ∧ μ 140 10 ≤ 600 := ⟨a3.1, a3.2.1⟩
  have n7 : 0 ≤ μ 140 7 ∧ μ 140 7 ≤ 60 := ⟨a4.1, a4.2.1⟩
  have n0 : 0 ≤ μ 140 0 ∧ μ 140 0 ≤ 60 ∧ μ 2 3 = μ 140 0 := a6.1
  have n1 : 0 ≤ μ 140 1 ∧ μ 140 1 ≤ 1152 ∧ μ 2 4 = μ 140 1 := a6.2.1
  have n8 : 0 ≤ μ 140 8 ∧ μ 140 8 ≤ 60 := ⟨a7.1, a7.2.1⟩
  have n9 := a8.1
  have c7 := a4.2.2.1
  have c8 := a7.2.2.1
  have c10 := a3.2.2.1
  by_cases hc : 0 ≤ c ∧ c < μ 140 7
  · by_cases hs : μ 140 (41724 + c).toNat = 4
    · have ga := a4.2.2.2 c hc.1 hc.2
      have hF : ∀ f : Int, 0 ≤ f → f < 8 → yF μ (μ 140) (μ 140 0) (μ 140 0) f := fun f f0 f1 => a6.2.2 (μ 140 0) f n0.1 (Int.le_refl _) f0 f1
      have hN : ∀ f : Int, 0 ≤ f → f < 8 → ndF (μ 140) (μ 140 0) f := fun f f0 f1 => yO_nd a9 n0.1 (Int.le_refl _) f0 f1
      have n4 := ga.2.1
      have c22 := ga.1.2.2.2.2.2.2.2
      have hEc := a5 c hc.1 hc.2
      generalize hcnt : μ 140 (41904 + c).toNat = n at *
      have k24 := K24 (sc := sc) (μ := μ) (kd := 4) (st := μ 140 0) c7 n7.1 n7.2
      have k43 := K43 (sc := sc) (μ := bg μ (μ 140 7) 4 (μ 140 0)) (n := n) hc.1 hc.2 n7.2 (by rw [bg_ne (by omega)]; exact c22) n4.1 n4.2
      have tj : ∀ j : Int, 0 ≤ j → j < n → tnC (bg μ (μ 140 7) 4 (μ 140 0)) (tuJ (bg μ (μ 140 7) 4 (μ 140 0)) c (μ 140 7) n.toNat) (4 * c + j) (4 * μ 140 7 + j) := fun j j0 j1 => tuJ_tn hc.1 hc.2 n.toNat (by omega) j j0 (by omega)
      have bgE : ∀ k i : Nat, (k = 25 ∨ k = 27 ∨ k = 29 ∨ k = 31 ∨ k = 33 ∨ k = 35 ∨ k = 37) → bg μ (μ 140 7) 4 (μ 140 0) k i = μ k i := fun k i hk => bg_ne (by omega)
      have tj2 : ∀ j : Int, 0 ≤ j → j < n → tnC μ (up2 (tuJ (bg μ (μ 140 7) 4 (μ 140 0)) c (μ 140 7) n.toNat) 22 (μ 140 7).toNat n) (4 * c + j) (4 * μ 140 7 + j) := fun j j0 j1 => by
        obtain ⟨t1, t2, t3, t4, t5, t6⟩ := tj j j0 j1
        unfold tnC
        simp (disch := omega) only [up2_ne]
        exact ⟨t1.trans (bgE _ _ (by omega)), t2.trans (bgE _ _ (by omega)), t3.trans (bgE _ _ (by omega)), t4.trans (bgE _ _ (by omega)), t5.trans (bgE _ _ (by omega)), fun i i0 i1 => ⟨(t6 i i0 i1).1.trans (bgE _ _ (by omega)), (t6 i i0 i1).2.trans (bgE _ _ (by omega))⟩⟩
      have s2ne : ∀ k i : Nat, (((k ≠ 8 ∧ k ≠ 10 ∧ k ≠ 12 ∧ k ≠ 14 ∧ k ≠ 16 ∧ k ≠ 18 ∧ k ≠ 20 ∧ k ≠ 22) ∨ (i : Int) ≠ μ 140 7) ∧ ((k ≠ 25 ∧ k ≠ 27 ∧ k ≠ 29 ∧ k ≠ 31 ∧ k ≠ 33) ∨ (i : Int) < 4 * μ 140 7 ∨ 4 * μ 140 7 + 4 ≤ i) ∧ ((k ≠ 35 ∧ k ≠ 37) ∨ (i : Int) < 24 * μ 140 7 ∨ 24 * μ 140 7 + 24 ≤ i)) → up2 (tuJ (bg μ (μ 140 7) 4 (μ 140 0)) c (μ 140 7) n.toNat) 22 (μ 140 7).toNat n k i = μ k i := fun k i hk => by
        rw [up2_ne (by omega), tuJ_ne (by omega) n.toNat (by omega) (by omega), bg_ne (by omega)]
      have s2b : ∀ k : Nat, (k = 8 ∨ k = 10 ∨ k = 12 ∨ k = 14 ∨ k = 16 ∨ k = 18 ∨ k = 20) → up2 (tuJ (bg μ (μ 140 7) 4 (μ 140 0)) c (μ 140 7) n.toNat) 22 (μ 140 7).toNat n k (μ 140 7).toNat = bg μ (μ 140 7) 4 (μ 140 0) k (μ 140 7).toNat := fun k hk => by
        rw [up2_ne (by omega), tuJ_ne (by omega) n.toNat (by omega) (by omega)]
      have s222 : up2 (tuJ (bg μ (μ 140 7) 4 (μ 140 0)) c (μ 140 7) n.toNat) 22 (μ 140 7).toNat n 22 (μ 140 7).toNat = n := up2_eq
      have s2f : frC μ (up2 (tuJ (bg μ (μ 140 7) 4 (μ 140 0)) c (μ 140 7) n.toNat) 22 (μ 140 7).toNat n) := fun j hj => by
        funext i
        exact s2ne j i (by omega)
      generalize hS : up2 (tuJ (bg μ (μ 140 7) 4 (μ 140 0)) c (μ 140 7) n.toNat) 22 (μ 140 7).toNat n = S2 at *
      have r3 : ∀ k : Nat, (k = 3 ∨ k = 4 ∨ k = 5) → S2 k = μ k := fun k hk => by
        funext i
        exact s2ne k i (by omega)
      have k46 := K46 (sc := sc) (μ := S2) (s := μ 140 0) (c := μ 140 7) (n := n) (P := fun k => plc (fitR (μ 140) (μ 140 0) (4 * c + k))) (by rw [V33, B33_0, G_21, xcI_some, B33_1, gt_in n7.1 (by omega), s222]) n4.1 n4.2 n7.1 n7.2 (fun k k0 k1 => by
        have he := hEc.1 k k0 k1
        obtain ⟨⟨g1, g2, g3, g4, g5⟩, ⟨f1, f2, f3, f4, f5, f6, f7, f8, f9, f10⟩, p1, p2⟩ := he
        obtain ⟨t1, t2, t3, t4, t5, t6⟩ := tj2 k k0 k1
        exact K56 (yF_eq (hF _ f1 (by omega)) (r3 3 (by omega)) (r3 4 (by omega)) (r3 5 (by omega))) (hN _ f1 (by omega)) n0.1 (by omega) f1 (by omega) (by omega) (by omega) (t1.trans g1) (t2.trans g2) (t3.trans g3) (t4.trans g5) (t5.trans g4) f5 f6 f3 f4 (fun i i0 i1 => ((t6 i i0 (by omega)).1).trans (p2 i i0 i1).1))
      rw [bI_iff (show (∀ k : Nat, (k : Int) < n → plc (fitR (μ 140) (μ 140 0) (4 * c + (k : Int))) ≠ -1) ↔ fitB (μ 140) (μ 140 0) c by unfold fitB; rw [hcnt])] at k46
      have mh : ∀ ν : xM, ν 140 = μ 140 → EV sc 192 [vR 139, vI c] (SK, ν) = AT sc 192 9 [vR 139, vI c, vI (bI (fitB (μ 140) (μ 140 0) c)), vN, vN, vN, vN, vN] [] (SK, up2 ν 139 3 0) := fun ν hν => by
        have ν0 : up2 ν 139 3 0 140 = μ 140 := by rw [up2_k (by omega)]; exact hν
        have t := m192_5 (sc := sc) ν0 rfl a4 a5 hF hN n0.1 (by omega) hc.1 hc.2
        simp (disch := omega) only [V192, B192_0, B192_1, B192_2, B192_4, mChange_t' (congrFun hν 7), up2_ne, hν, hs, t, xcI_some, xcV_some, if_pos, if_neg, xg_in, wr_of, if_true, if_false, or_true, true_or]
      have s23 : S2 2 3 = μ 140 0 := by rw [s2ne 2 3 (by omega)]; exact n0.2.2
      by_cases ok : fitB (μ 140) (μ 140 0) c
      · rw [bI_t ok] at k46
        have s69 : S2 6 9 = μ 140 7 := by rw [s2ne 6 9 (by omega)]; exact c7
        by_cases h60 : μ 140 7 = 60
        · refine .mk h (-4) S2 (μ 140) ?_ s2f (fun ν hν => ⟨up2 ν 139 3 0, ?_, by rw [up2_k (by omega)]; exact hν, .th⟩) (yK_C h.1 (fun k i hk => s2ne k i (by omega)))
          · simp (disch := omega) only [V140, B140_0, B140_1, B140_2, B140_3, B140_4, B140_5, B140_6, B140_7, B140_8, B140_9, B140_10, B140_11, cChange_t, q27 a4 hc.1 hc.2, hs, V1, B1_0, V23, B23_0, n0.2.2, k24, k43, s23, k46, s69, xcI_some, xcV_some, if_pos, if_neg, xg_in, wr_of, if_true, if_false, or_true, true_or]
          · rw [mh ν hν, bI_t ok]
            simp (disch := omega) only [B192_9, B192_10, up2_ne, hν, xcI_some, xcV_some, if_pos, if_neg, xg_in, wr_of, if_true, if_false, or_true, true_or]
        · have k25 := K25 (sc := sc) s69 n7.1 (by omega)
          have q := fun ν : xM => m182 (sc := sc) (m := μ 140) (ν := ν) (kd := 4)
          have hX : nw (μ 140) 4 (41904 + c).toNat = n := by rw [nw_ne n7.1 (by omega), hcnt]
          refine .mk h (μ 140 7) (up2 S2 6 9 (μ 140 7 + 1)) (tuI (up1 (nw (μ 140) 4) (41904 + μ 140 7).toNat n) c (μ 140 7) n.toNat) ?_ (s2f.tr (.up (by omega))) (fun ν hν => ?_) ?_
          · simp (disch := omega) only [V140, B140_0, B140_1, B140_2, B140_3, B140_4, B140_5, B140_6, B140_7, B140_8, B140_9, B140_10, B140_11, B140_12, B140_13, cChange_t, q27 a4 hc.1 hc.2, hs, V1, B1_0, V23, B23_0, n0.2.2, k24, k43, s23, k46, s69, k25, xcI_some, xcV_some, if_pos, if_neg, xg_in, wr_of, if_true, if_false, or_true, true_or]
          · have ν0 : up2 ν 139 3 0 140 = μ 140 := by rw [up2_k (by omega)]; exact hν
            obtain ⟨ν1, e1, e2, e3⟩ := q (up2 ν 139 3 0) ν0 n7.1 (by omega)
            obtain ⟨ν2, f1, f2, f3⟩ := m192_14 (sc := sc) (ν := up2 ν1 140 (41904 + μ 140 7).toNat n) (c := c) (r := μ 140 7) (n := n) rfl hc.1 hc.2 (by omega) (by rw [up2_ne (by omega), e2, hX]) n4.1 n4.2
            refine ⟨ν2, ?_, ?_, frM.th.tr (e3.tr ((frM.up (by omega)).tr f3))⟩
            · rw [mh ν hν, bI_t ok]
              have hX2 : ν1 140 (41904 + c).toNat = n := by rw [e2, hX]
              simp (disch := omega) only [B192_9, B192_10, B192_11, B192_12, B192_13, up2_ne, hν, e1, hX2, f1, xcI_some, xcV_some, if_pos, if_neg, xg_in, wr_of, if_true, if_false, or_true, true_or]
            · rw [f2, up2_row, e2]
          · have y7 : ∀ i : Nat, (∀ j : Int, 0 ≤ j → j < 4 → ¬ aEe (4 * μ 140 7 + j) i) → tuI (up1 (nw (μ 140) 4) (41904 + μ 140 7).toNat n) c (μ 140 7) n.toNat i = up1 (nw (μ 140) 4) (41904 + μ 140 7).toNat n i := fun i hi => tuI_ne n7.1 n.toNat (by omega) hi
            have tm : ∀ j : Int, 0 ≤ j → j < n → tnM (μ 140) (tuI (up1 (nw (μ 140) 4) (41904 + μ 140 7).toNat n) c (μ 140 7) n.toNat) (4 * c + j) (4 * μ 140 7 + j) := fun j j0 j1 => by
              have t := tuI_tn (m := up1 (nw (μ 140) 4) (41904 + μ 140 7).toNat n) hc.1 hc.2 (by omega) n.toNat (by omega) j j0 (by omega)
              have o : ∀ i : Nat, aEe (4 * c + j) i → up1 (nw (μ 140) 4) (41904 + μ 140 7).toNat n i = μ 140 i := fun i hi => by
                unfold aEe at hi
                rw [up1_ne (by omega), nw_ne n7.1 (by omega)]
              obtain ⟨t1, t2, t3, t4, t5, t6⟩ := t
              exact ⟨t1.trans (o _ (by unfold aEe; omega)), t2.trans (o _ (by unfold aEe; omega)), t3.trans (o _ (by unfold aEe; omega)), t4.trans (o _ (by unfold aEe; omega)), t5.trans (o _ (by unfold aEe; omega)), fun i i0 i1 => ⟨(t6 i i0 i1).1.trans (o _ (by unfold aEe; omega)), (t6 i i0 i1).2.1.trans (o _ (by unfold aEe; omega)), (t6 i i0 i1).2.2.1.trans (o _ (by unfold aEe; omega)), (t6 i i0 i1).2.2.2.trans (o _ (by unfold aEe; omega))⟩⟩
            generalize hM : tuI (up1 (nw (μ 140) 4) (41904 + μ 140 7).toNat n) c (μ 140 7) n.toNat = m' at *
            have ei : ∀ i : Nat, i ≠ 7 → nwI (μ 140 7) i → m' i = μ 140 i := fun i i7 hi => by
              rw [y7 i (fun j j0 j1 h2 => by unfold aEe at h2; unfold nwI at hi; omega)]
              unfold nwI at hi
              rw [up1_ne (by omega), nw_ne n7.1 (by omega)]
            have yn : ∀ i : Nat, (i = 7 ∨ (i : Int) = 41604 + μ 140 7 ∨ (i : Int) = 41664 + μ 140 7 ∨ (i : Int) = 41724 + μ 140 7 ∨ (i : Int) = 41784 + μ 140 7 ∨ (i : Int) = 41844 + μ 140 7 ∨ (i : Int) = 41964 + μ 140 7 ∨ (i : Int) = 42024 + μ 140 7) → m' i = nw (μ 140) 4 i := fun i hi => by
              rw [y7 i (fun j j0 j1 h2 => by unfold aEe at h2; omega), up1_ne (by omega)]
            have p1 : m' (41604 + μ 140 7).toNat = 4 := by rw [yn _ (by omega)]; unfold nw; simp (disch := omega) only [up1_ne, up1_eq]
            have p2 : m' (41664 + μ 140 7).toNat = μ 140 0 := by rw [yn _ (by omega)]; unfold nw; simp (disch := omega) only [up1_ne, up1_eq]
            have p3 : m' (41724 + μ 140 7).toNat = 0 := by rw [yn _ (by omega)]; unfold nw; simp (disch := omega) only [up1_ne, up1_eq]
            have p4 : m' (41784 + μ 140 7).toNat = -1 := by rw [yn _ (by omega)]; unfold nw; simp (disch := omega) only [up1_ne, up1_eq]
            have p5 : m' (41844 + μ 140 7).toNat = -1 := by rw [yn _ (by omega)]; unfold nw; simp (disch := omega) only [up1_ne, up1_eq]
            have p6 : m' (41904 + μ 140 7).toNat = n := by rw [y7 _ (fun j j0 j1 h2 => by unfold aEe at h2; omega), up1_eq]
            have p8 : m' (41964 + μ 140 7).toNat = -1 := by rw [yn _ (by omega)]; unfold nw; simp (disch := omega) only [up1_ne, up1_eq]
            have p9 : m' (42024 + μ 140 7).toNat = 0 := by rw [yn _ (by omega)]; unfold nw; simp (disch := omega) only [up1_ne, up1_eq]
            have p7 : m' 7 = μ 140 7 + 1 := by rw [yn _ (by omega)]; unfold nw; simp (disch := omega) only [up1_ne, up1_eq]
            have p11 : m' 1 = μ 140 1 := ei 1 (by omega) (by unfold nwI; omega)
            have tc : ∀ j : Int, 0 ≤ j → j < n → tnC μ (up2 S2 6 9 (μ 140 7 + 1)) (4 * c + j) (4 * μ 140 7 + j) := fun j j0 j1 => by
              have t := tj2 j j0 j1
              unfold tnC at t ⊢
              simp (disch := omega) only [up2_ne]
              exact t
            refine yK_add h.1 (by omega) p7 up2_eq ei (fun k i hC => ?_) ?_ p3 p5 ?_ ?_
            · unfold nwC at hC
              rw [up2_ne (by omega), s2ne k i (by omega)]
            · unfold yAc
              rw [p1, p2, p3, p4, p5, p6, p8, p9]
              simp (disch := omega) only [up2_ne, s2b, s222]
              unfold bg
              simp (disch := omega) only [up2_ne, up2_eq]
              exact ⟨⟨trivial, trivial, trivial, trivial, trivial, trivial, trivial, trivial⟩, n4, Or.inl trivial, Or.inl trivial⟩
            · unfold yEc
              rw [p6]
              refine ⟨fun k k0 k1 => yEe_tn (hEc.1 k k0 k1) (tc k k0 k1) (tm k k0 k1) (by rw [up2_k (by omega), r3 5 (by omega)]) p11, fun k k' k0 k1 k0' k1' ek => ?_⟩
              rw [(tm k k0 k1).1, (tm k' k0' k1').1] at ek
              exact hEc.2 k k' k0 k1 k0' k1' ek
            · intro ρ hρ k k0 k1
              rw [p6] at k1
              have he := (hEc.1 k k0 k1).2.1
              exact yOk_tn (hρ c k hc.1 hc.2 k0 (by rw [hcnt]; exact k1)) (tm k k0 k1) (by omega) (by omega)
      · rw [bI_f ok] at k46
        refine .mk h (-3) S2 (μ 140) ?_ s2f (fun ν hν => ⟨up2 ν 139 3 0, ?_, by rw [up2_k (by omega)]; exact hν, .th⟩) (yK_C h.1 (fun k i hk => s2ne k i (by omega)))
        · simp (disch := omega) only [V140, B140_0, B140_1, B140_2, B140_3, B140_4, B140_5, B140_6, B140_7, B140_8, B140_9, cChange_t, q27 a4 hc.1 hc.2, hs, V1, B1_0, V23, B23_0, n0.2.2, k24, k43, s23, k46, xcI_some, xcV_some, if_pos, if_neg, xg_in, wr_of, if_true, if_false, or_true, true_or]
        · rw [mh ν hν, bI_f ok]
          simp (disch := omega) only [B192_9, xcI_some, xcV_some, if_pos, if_neg, xg_in, wr_of, if_true, if_false, or_true, true_or]
    · refine .same h (-3) ?_ fun ν hν => ?_
      · simp (disch := omega) only [V140, B140_0, B140_1, B140_2, B140_3, cChange_t, q27 a4 hc.1 hc.2, xcI_some, xcV_some, if_pos, if_neg, xg_in, wr_of, if_true, if_false, or_true, true_or]
      · have g4 := (a4.2.2.2 c hc.1 hc.2).2.1
        have t : AT sc 192 5 [vR 139, vI c, vI 0, vI (4 * c), vN, vN, vN, vN] [] (SK, up2 ν 139 3 0) = some (some (vI (-3)), (SK, up2 ν 139 3 0)) := by
          rw [B192_5]
          by_cases h4 : 0 < μ 140 (41904 + c).toNat
          · simp (disch := omega) only [B192_9, up2_ne, hν, xcI_some, xcV_some, if_pos, if_neg, xg_in, wr_of, if_true, if_false, or_true, true_or]
          · simp (disch := omega) only [B192_9, up2_ne, hν, xcI_some, xcV_some, if_pos, if_neg, xg_in, wr_of, if_true, if_false, or_true, true_or]
        simp (disch := omega) only [V192, B192_0, B192_1, B192_2, B192_3, B192_4, mChange_t' (congrFun hν 7), up2_ne, hν, t, xcI_some, xcV_some, if_pos, if_neg, xg_in, wr_of, if_true, if_false, or_true, true_or]
  · refine .same h (-2) ?_ fun ν hν => ?_
    · simp (disch := omega) only [V140, B140_0, B140_1, cChange_f, xcI_some, xcV_some, if_pos, if_neg, xg_in, wr_of, if_true, if_false, or_true, true_or]
    · simp (disch := omega) only [V192, B192_0, B192_1, mChange_f' (congrFun hν 7), xcI_some, xcV_some, if_pos, if_neg, xg_in, wr_of, if_true, if_false, or_true, true_or]
end

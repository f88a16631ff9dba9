/-! calls, one by one: the class and the reference give the same, and what must hold holds again -/
def yOp (sc : Nat × (Nat → Int)) (a a' : Nat) (as : List xV) (μ : xM) : Prop := ∃ (r : Int) (μ1 μ2 : xM), EV sc a (vR 0 :: as) (SK, μ) = some (some (vI r), (SK, μ1)) ∧ EV sc a' (vR 139 :: as) (SK, μ1) = some (some (vI r), (SK, μ2)) ∧ yAll μ2
theorem yAll_th {μ : xM} (h : yAll μ) {v : Int} : yAll (up2 μ 139 3 v) :=
  yAll_mk h .rf .th (by rw [up2_k (by omega)]; exact yK_fr h.1 fun k i k0 k1 => up2_ne (by omega))
theorem yOp.same {sc : Nat × (Nat → Int)} {a a' : Nat} {as : List xV} {μ : xM} (h : yAll μ) {r : Int} (h1 : EV sc a (vR 0 :: as) (SK, μ) = some (some (vI r), (SK, μ))) (h2 : EV sc a' (vR 139 :: as) (SK, μ) = some (some (vI r), (SK, up2 μ 139 3 0))) : yOp sc a a' as μ :=
  ⟨r, μ, _, h1, h2, yAll_th h⟩
section
variable {sc : Nat × (Nat → Int)} {μ : xM}
theorem op_size (h : yAll μ) {x : Int} : yOp sc 147 203 [vI x] μ := by
  obtain ⟨⟨a1, a2, a3, a4, a5, a6, a7, a8, a9, a10, a11⟩, hk⟩ := id h
  by_cases hx : 1 ≤ x ∧ x ≤ 8
  · refine ⟨μ 140 5, up2 μ 1 6 x, up2 (up2 (up2 μ 1 6 x) 139 3 0) 140 5 x, ?_, ?_, ?_⟩
    · simp (disch := omega) only [V147, B147_0, B147_1, B147_2, B147_3, V62, B62_0, xcI_some, if_pos, if_neg]
      rw [a2.1]
    · simp (disch := omega) only [V203, B203_0, B203_1, B203_2, in_t, xcI_some, if_pos, if_neg, xg_in, up2_ne]
    · refine yAll_mk h (.up (by omega)) (frM.th.tr (.up (by omega))) ?_
      have e : ∀ i : Nat, i ≠ 5 → up2 (up2 (up2 μ 1 6 x) 139 3 0) 140 5 x 140 i = μ 140 i := fun i hi => by simp (disch := omega) only [up2_ne]
      have eC : ∀ k i : Nat, (k ≠ 1 ∧ k < 139) → up2 (up2 (up2 μ 1 6 x) 139 3 0) 140 5 x k i = μ k i := fun k i hi => by simp (disch := omega) only [up2_ne]
      refine ⟨yT_fr a1 (fun k i hk => eC k i (by unfold dT at hk; omega)) (fun i hi => e i (by unfold aT at hi; omega)), ?_, yG_fr a3 (fun k i hk => eC k i (by omega)) (fun i hi => e i (by omega)), yA_fr a4 (fun k i hk => eC k i (by unfold dA at hk; omega)) (fun i hi => e i (by unfold aA at hi; omega)), yE_fr a5 a4 (fun k i hk => eC k i (by unfold dE at hk; omega)) (fun i _ _ => eC 5 i (by omega)) (by rw [e 1 (by omega)]; exact Int.le_refl _) (fun i hi => e i (by unfold aE at hi; omega)), yB_fr a6 ⟨eC 2 3 (by omega), eC 2 4 (by omega)⟩ ⟨e 0 (by omega), e 1 (by omega)⟩ (fun s _ _ k i hk => eC k i (by unfold dS at hk; omega)) (fun i _ _ => eC 5 i (by omega)) (fun s _ _ i hi => e i (by unfold aS at hi; omega)), yW_fr a7 ⟨a4.1, a4.2.1⟩ (fun k i hk => eC k i (by omega)) (fun i hi => e i (by omega)), yP_fr a8 a4.2.1 (fun k i hk => eC k i (by omega)) (fun i hi => e i (by omega)), yO_fr a9 a4 a6 a5 ⟨e 0 (by omega), e 7 (by omega)⟩ (fun s _ _ i hi => e i (by unfold aS at hi; omega)) (fun i hi => e i (by omega)), yM_fr a10 a4 (fun i hi => e i (by omega)), yN_fr a11 a4 (fun i hi => e i (by omega))⟩
      refine ⟨?_, ?_⟩
      · simp (disch := omega) only [up2_ne, up2_eq]
      · rw [up2_eq]; exact hx
  · refine .same h (r := -2) ?_ ?_
    · rcases (show x < 1 ∨ 8 < x by omega) with g | g
      · simp (disch := omega) only [V147, B147_0, B147_1, B147_2, B147_3, if_pos, if_neg]
      · simp (disch := omega) only [V147, B147_0, B147_1, B147_2, B147_3, if_pos, if_neg]
    · simp (disch := omega) only [V203, B203_0, B203_1, B203_2, in_f, xcI_some, if_pos, if_neg]
theorem op_tries (h : yAll μ) {x y : Int} : yOp sc 136 175 [vI x, vI y] μ := by
  obtain ⟨⟨a1, a2, a3, a4, a5, a6, a7, a8, a9, a10, a11⟩, hk⟩ := id h
  by_cases hx : 1 ≤ x ∧ x ≤ 9
  · by_cases hy : 1 ≤ y ∧ y ≤ x
    · refine ⟨1, up2 (up2 μ 59 6 x) 59 7 y, up2 (up2 (up2 (up2 (up2 μ 59 6 x) 59 7 y) 139 3 0) 140 3 x) 140 4 y, ?_, ?_, ?_⟩
      · simp (disch := omega) only [V136, B136_0, B136_1, B136_2, B136_3, V125, B125_0, xcI_some, xcV_some, if_pos, if_neg]
      · simp (disch := omega) only [V175, B175_0, B175_1, B175_2, B175_3, B175_4, in_t, xcI_some, if_pos, if_neg, xg_in]
      · refine yAll_mk h ((frC.up (by omega)).tr (.up (by omega))) (frM.th.tr ((frM.up (by omega)).tr (.up (by omega)))) ?_
        have e : ∀ i : Nat, (i ≠ 3 ∧ i ≠ 4) → up2 (up2 (up2 (up2 (up2 μ 59 6 x) 59 7 y) 139 3 0) 140 3 x) 140 4 y 140 i = μ 140 i := fun i hi => by simp (disch := omega) only [up2_ne]
        have eC : ∀ k i : Nat, ((k ≠ 59 ∨ (i ≠ 6 ∧ i ≠ 7)) ∧ k < 139) → up2 (up2 (up2 (up2 (up2 μ 59 6 x) 59 7 y) 139 3 0) 140 3 x) 140 4 y k i = μ k i := fun k i hi => by simp (disch := omega) only [up2_ne]
        refine ⟨?_, yL_fr a2 (eC 1 6 (by omega)) (e 5 (by omega)), yG_fr a3 (fun k i hk => eC k i (by omega)) (fun i hi => e i (by omega)), yA_fr a4 (fun k i hk => eC k i (by unfold dA at hk; omega)) (fun i hi => e i (by unfold aA at hi; omega)), yE_fr a5 a4 (fun k i hk => eC k i (by unfold dE at hk; omega)) (fun i _ _ => eC 5 i (by omega)) (by rw [e 1 (by omega)]; exact Int.le_refl _) (fun i hi => e i (by unfold aE at hi; omega)), yB_fr a6 ⟨eC 2 3 (by omega), eC 2 4 (by omega)⟩ ⟨e 0 (by omega), e 1 (by omega)⟩ (fun s _ _ k i hk => eC k i (by unfold dS at hk; omega)) (fun i _ _ => eC 5 i (by omega)) (fun s _ _ i hi => e i (by unfold aS at hi; omega)), yW_fr a7 ⟨a4.1, a4.2.1⟩ (fun k i hk => eC k i (by omega)) (fun i hi => e i (by omega)), yP_fr a8 a4.2.1 (fun k i hk => eC k i (by omega)) (fun i hi => e i (by omega)), yO_fr a9 a4 a6 a5 ⟨e 0 (by omega), e 7 (by omega)⟩ (fun s _ _ i hi => e i (by unfold aS at hi; omega)) (fun i hi => e i (by omega)), yM_fr a10 a4 (fun i hi => e i (by omega)), yN_fr a11 a4 (fun i hi => e i (by omega))⟩
        refine ⟨?_, ?_, ?_, fun t t0 t1 => ?_⟩
        · rw [e 6 (by omega), eC 59 5 (by omega)]; exact a1.1
        · simp (disch := omega) only [up2_ne, up2_eq]
          omega
        · rw [e 11 (by omega), e 2 (by omega), eC 59 8 (by omega), eC 59 9 (by omega)]; exact a1.2.2.1
        · rw [e 6 (by omega)] at t1
          have h6 := a1.1
          have h2 := a1.2.2.2 t t0 t1
          rw [e (41484 + t).toNat (by omega), e (41508 + t).toNat (by omega), e (41532 + t).toNat (by omega), e (41556 + t).toNat (by omega), e (41580 + t).toNat (by omega), eC 61 t.toNat (by omega), eC 63 t.toNat (by omega), eC 65 t.toNat (by omega), eC 67 t.toNat (by omega), eC 69 t.toNat (by omega)]
          exact h2
    · refine .same h (r := -2) ?_ ?_
      · rcases (show y < 1 ∨ x < y by omega) with g | g
        · simp (disch := omega) only [V136, B136_0, B136_1, B136_2, B136_3, if_pos, if_neg]
        · by_cases g2 : y < 1
          · simp (disch := omega) only [V136, B136_0, B136_1, B136_2, B136_3, if_pos, if_neg]
          · simp (disch := omega) only [V136, B136_0, B136_1, B136_2, B136_3, if_pos, if_neg]
      · simp (disch := omega) only [V175, B175_0, B175_1, B175_2, B175_3, B175_4, in_t, in_f, xcI_some, if_pos, if_neg]
  · refine .same h (r := -2) ?_ ?_
    · rcases (show x < 1 ∨ 9 < x by omega) with g | g
      · simp (disch := omega) only [V136, B136_0, B136_1, B136_2, B136_3, if_pos, if_neg]
      · simp (disch := omega) only [V136, B136_0, B136_1, B136_2, B136_3, if_pos, if_neg]
    · simp (disch := omega) only [V175, B175_0, B175_1, B175_2, B175_3, B175_4, in_f, xcI_some, if_pos, if_neg]
theorem op_odds (h : yAll μ) {x y : Int} : yOp sc 135 174 [vI x, vI y] μ := by
  obtain ⟨⟨a1, a2, a3, a4, a5, a6, a7, a8, a9, a10, a11⟩, hk⟩ := id h
  have h6 := a1.1
  by_cases hx : 0 ≤ x ∧ x < μ 140 6
  · by_cases hy : 0 ≤ y ∧ y ≤ 999
    · refine ⟨1, up2 μ 69 x.toNat y, up2 (up2 (up2 μ 69 x.toNat y) 139 3 0) 140 (41580 + x).toNat y, ?_, ?_, ?_⟩
      · simp (disch := omega) only [V135, B135_0, B135_1, B135_2, B135_3, B135_4, B135_5, V119, B119_0, V124, B124_0, B124_1, isIn_t, S_7, S_9, S_11, S_13, S_15, S_17, S_19, S_21, S_24, S_26, S_28, S_30, S_32, S_34, S_36, S_39, S_42, S_44, S_46, S_48, S_50, S_52, S_55, S_57, S_60, S_62, S_64, S_66, S_68, st_in, xcI_some, xcV_some, if_pos, if_neg]
      · simp (disch := (simp (disch := omega) only [up2_ne]; omega)) only [V174, B174_0, B174_1, B174_2, B174_3, B174_4, in_t, mTest_t, xcI_some, if_pos, if_neg, xg_in, wr_of]
      · refine yAll_mk h (frC.up (by omega)) (frM.th.tr (.up (by omega))) ?_
        have e : ∀ i : Nat, (i ≠ (41580 + x).toNat) → up2 (up2 (up2 μ 69 x.toNat y) 139 3 0) 140 (41580 + x).toNat y 140 i = μ 140 i := fun i hi => by simp (disch := omega) only [up2_ne]
        have eC : ∀ k i : Nat, ((k ≠ 69 ∨ i ≠ x.toNat) ∧ k < 139) → up2 (up2 (up2 μ 69 x.toNat y) 139 3 0) 140 (41580 + x).toNat y k i = μ k i := fun k i hi => by simp (disch := omega) only [up2_ne]
        refine ⟨?_, yL_fr a2 (eC 1 6 (by omega)) (e 5 (by omega)), yG_fr a3 (fun k i hk => eC k i (by omega)) (fun i hi => e i (by omega)), yA_fr a4 (fun k i hk => eC k i (by unfold dA at hk; omega)) (fun i hi => e i (by unfold aA at hi; omega)), yE_fr a5 a4 (fun k i hk => eC k i (by unfold dE at hk; omega)) (fun i _ _ => eC 5 i (by omega)) (by rw [e 1 (by omega)]; exact Int.le_refl _) (fun i hi => e i (by unfold aE at hi; omega)), yB_fr a6 ⟨eC 2 3 (by omega), eC 2 4 (by omega)⟩ ⟨e 0 (by omega), e 1 (by omega)⟩ (fun s _ _ k i hk => eC k i (by unfold dS at hk; omega)) (fun i _ _ => eC 5 i (by omega)) (fun s _ _ i hi => e i (by unfold aS at hi; omega)), yW_fr a7 ⟨a4.1, a4.2.1⟩ (fun k i hk => eC k i (by omega)) (fun i hi => e i (by omega)), yP_fr a8 a4.2.1 (fun k i hk => eC k i (by omega)) (fun i hi => e i (by omega)), yO_fr a9 a4 a6 a5 ⟨e 0 (by omega), e 7 (by omega)⟩ (fun s _ _ i hi => e i (by unfold aS at hi; omega)) (fun i hi => e i (by omega)), yM_fr a10 a4 (fun i hi => e i (by omega)), yN_fr a11 a4 (fun i hi => e i (by omega))⟩
        refine ⟨?_, ?_, ?_, fun t t0 t1 => ?_⟩
        · rw [e 6 (by omega), eC 59 5 (by omega)]; exact a1.1
        · rw [e 3 (by omega), e 4 (by omega), eC 59 6 (by omega), eC 59 7 (by omega)]; exact a1.2.1
        · rw [e 11 (by omega), e 2 (by omega), eC 59 8 (by omega), eC 59 9 (by omega)]; exact a1.2.2.1
        · rw [e 6 (by omega)] at t1
          have h2 := a1.2.2.2 t t0 t1
          rw [e (41484 + t).toNat (by omega), e (41508 + t).toNat (by omega), e (41532 + t).toNat (by omega), e (41556 + t).toNat (by omega), eC 61 t.toNat (by omega), eC 63 t.toNat (by omega), eC 65 t.toNat (by omega), eC 67 t.toNat (by omega)]
          by_cases hxt : t = x
          · subst hxt
            rw [up2_eq, up2_ne (by omega), up2_ne (by omega), up2_eq]
            unfold tOK at h2 ⊢
            exact ⟨h2.1, h2.2.1, h2.2.2.1, h2.2.2.2.1, rfl, by omega⟩
          · rw [e (41580 + t).toNat (by omega), eC 69 t.toNat (by omega)]
            exact h2
    · refine .same h (r := -2) ?_ ?_
      · rcases (show y < 0 ∨ 999 < y by omega) with g | g
        · simp (disch := omega) only [V135, B135_0, B135_1, B135_2, B135_3, B135_4, B135_5, V119, B119_0, isIn_t, xcI_some, if_pos, if_neg]
        · simp (disch := omega) only [V135, B135_0, B135_1, B135_2, B135_3, B135_4, B135_5, V119, B119_0, isIn_t, xcI_some, if_pos, if_neg]
      · simp (disch := (simp (disch := omega) only [up2_ne]; omega)) only [V174, B174_0, B174_1, B174_2, B174_3, B174_4, in_t, in_f, mTest_t, xcI_some, if_pos, if_neg]
  · refine .same h (r := -2) ?_ ?_
    · simp (disch := omega) only [V135, B135_0, B135_1, B135_2, B135_3, B135_4, B135_5, V119, B119_0, isIn_f, xcI_some, if_pos, if_neg]
    · simp (disch := (simp (disch := omega) only [up2_ne]; omega)) only [V174, B174_0, B174_1, B174_2, B174_3, B174_4, mTest_f, xcI_some, if_pos, if_neg]
end

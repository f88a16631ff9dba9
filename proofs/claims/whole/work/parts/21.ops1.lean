/-! calls, one by one: the class and the reference give the same, and what must hold holds again -/
def up1 (m : Nat → Int) (i : Nat) (v : Int) : Nat → Int := fun j => if j = i then v else m j
theorem up1_eq {m : Nat → Int} {i : Nat} {v : Int} : up1 m i v i = v := if_pos rfl
theorem up1_ne {m : Nat → Int} {i j : Nat} {v : Int} (h : j ≠ i) : up1 m i v j = m j := if_neg h
theorem up2_row {μ : xM} {k i : Nat} {v : Int} : up2 μ k i v k = up1 (μ k) i v := by
  funext j
  unfold up2 up1
  by_cases h : j = i
  · rw [if_pos ⟨rfl, h⟩, if_pos h]
  · rw [if_neg (by omega), if_neg h]
noncomputable def bI (P : Prop) : Int := @ite Int P (Classical.propDecidable P) 1 0
theorem bI_t {P : Prop} (h : P) : bI P = 1 := by unfold bI; rw [if_pos h]
theorem bI_f {P : Prop} (h : ¬ P) : bI P = 0 := by unfold bI; rw [if_neg h]
theorem bI_01 {P : Prop} : (P ∧ bI P = 1) ∨ (¬ P ∧ bI P = 0) := by
  by_cases h : P
  · exact Or.inl ⟨h, bI_t h⟩
  · exact Or.inr ⟨h, bI_f h⟩
theorem bI_iff {P Q : Prop} (h : P ↔ Q) : bI P = bI Q := by rw [propext h]
/-- what the reference does with its row -/
def mO (sc : Nat × (Nat → Int)) (a : Nat) (as : List xV) (m : Nat → Int) (r : Int) (m' : Nat → Int) : Prop := ∀ ν : xM, ν 140 = m → ∃ ν' : xM, EV sc a (vR 139 :: as) (SK, ν) = some (some (vI r), (SK, ν')) ∧ ν' 140 = m' ∧ frM ν ν'
def yOp (sc : Nat × (Nat → Int)) (a a' : Nat) (as : List xV) (μ : xM) : Prop := ∃ (r : Int) (μ1 μ2 : xM), EV sc a (vR 0 :: as) (SK, μ) = some (some (vI r), (SK, μ1)) ∧ EV sc a' (vR 139 :: as) (SK, μ1) = some (some (vI r), (SK, μ2)) ∧ yAll μ2
theorem yOp.mk {sc : Nat × (Nat → Int)} {a a' : Nat} {as : List xV} {μ : xM} (h : yAll μ) (r : Int) (μ1 : xM) (m' : Nat → Int) (h1 : EV sc a (vR 0 :: as) (SK, μ) = some (some (vI r), (SK, μ1))) (h2 : frC μ μ1) (h3 : mO sc a' as (μ 140) r m') (h4 : yK μ1 m') : yOp sc a a' as μ := by
  obtain ⟨μ2, e1, e2, e3⟩ := h3 μ1 (h2 140 (by omega))
  refine ⟨r, μ1, μ2, h1, e1, yAll_mk h h2 e3 ?_⟩
  rw [e2]
  exact yK_fr h4 fun k i k0 k1 => by rw [e3.1 k (by omega)]
theorem yOp.same {sc : Nat × (Nat → Int)} {a a' : Nat} {as : List xV} {μ : xM} (h : yAll μ) (r : Int) (h1 : EV sc a (vR 0 :: as) (SK, μ) = some (some (vI r), (SK, μ))) (h2 : ∀ ν : xM, ν 140 = μ 140 → EV sc a' (vR 139 :: as) (SK, ν) = some (some (vI r), (SK, up2 ν 139 3 0))) : yOp sc a a' as μ :=
  yOp.mk h r μ (μ 140) h1 .rf (fun ν hν => ⟨_, h2 ν hν, by rw [up2_k (by omega)]; exact hν, .th⟩) h.1
theorem mTest_t' {sc : Nat × (Nat → Int)} {ν : xM} {v x n : Int} (e : ν 140 6 = n) (h : 0 ≤ n ∧ n ≤ 24) (h0 : 0 ≤ x) (h1 : x < n) : EV sc 173 [vR 139, vI x] (SK, up2 ν 139 3 v) = some (some (vI 1), (SK, up2 ν 139 3 v)) := by
  have e6 : up2 ν 139 3 v 140 6 = n := by rw [up2_ne (by omega)]; exact e
  exact mTest_t (by omega) h0 (by omega)
theorem mTest_f' {sc : Nat × (Nat → Int)} {ν : xM} {v x n : Int} (e : ν 140 6 = n) (h : 0 ≤ n ∧ n ≤ 24) (h0 : x < 0 ∨ n ≤ x) : EV sc 173 [vR 139, vI x] (SK, up2 ν 139 3 v) = some (some (vI 0), (SK, up2 ν 139 3 v)) := by
  have e6 : up2 ν 139 3 v 140 6 = n := by rw [up2_ne (by omega)]; exact e
  exact mTest_f (by omega) (by omega)
theorem mChange_t' {sc : Nat × (Nat → Int)} {ν : xM} {v x n : Int} (e : ν 140 7 = n) (h : 0 ≤ n ∧ n ≤ 60) (h0 : 0 ≤ x) (h1 : x < n) : EV sc 181 [vR 139, vI x] (SK, up2 ν 139 3 v) = some (some (vI 1), (SK, up2 ν 139 3 v)) := by
  have e6 : up2 ν 139 3 v 140 7 = n := by rw [up2_ne (by omega)]; exact e
  exact mChange_t (by omega) h0 (by omega)
theorem mChange_f' {sc : Nat × (Nat → Int)} {ν : xM} {v x n : Int} (e : ν 140 7 = n) (h : 0 ≤ n ∧ n ≤ 60) (h0 : x < 0 ∨ n ≤ x) : EV sc 181 [vR 139, vI x] (SK, up2 ν 139 3 v) = some (some (vI 0), (SK, up2 ν 139 3 v)) := by
  have e6 : up2 ν 139 3 v 140 7 = n := by rw [up2_ne (by omega)]; exact e
  exact mChange_f (by omega) (by omega)
section
variable {sc : Nat × (Nat → Int)} {μ : xM}
theorem op_size (h : yAll μ) {x : Int} : yOp sc 147 203 [vI x] μ := by
  obtain ⟨⟨a1, a2, a3, a4, a5, a6, a7, a8, a9, a10, a11⟩, hk⟩ := id h
  have n6 := a1.1
  have n3 := a1.2.1
  have n5 := a2.2
  have n10 : 0 ≤ μ 140 10 ∧ μ 140 10 ≤ 600 := ⟨a3.1, a3.2.1⟩
  have n7 : 0 ≤ μ 140 7 ∧ μ 140 7 ≤ 60 := ⟨a4.1, a4.2.1⟩
  have n0 : 0 ≤ μ 140 0 ∧ μ 140 0 ≤ 60 ∧ μ 2 3 = μ 140 0 := a6.1
  have n1 : 0 ≤ μ 140 1 ∧ μ 140 1 ≤ 1152 ∧ μ 2 4 = μ 140 1 := a6.2.1
  have n8 : 0 ≤ μ 140 8 ∧ μ 140 8 ≤ 60 := ⟨a7.1, a7.2.1⟩
  have n9 := a8.1
  have c7 := a4.2.2.1
  have c8 := a7.2.2.1
  have c10 := a3.2.2.1
  by_cases hx : 1 ≤ x ∧ x ≤ 8
  · refine .mk h (μ 140 5) (up2 μ 1 6 x) (up1 (μ 140) 5 x) ?_ (.up (by omega)) (fun ν hν => ⟨up2 (up2 ν 139 3 0) 140 5 x, ?_, ?_, ?_⟩) ?_
    · simp (disch := omega) only [V147, B147_0, B147_1, B147_2, B147_3, V62, B62_0, xcI_some, if_pos, if_neg]
      rw [a2.1]
    · simp (disch := omega) only [V203, B203_0, B203_1, B203_2, in_t, xcI_some, if_pos, if_neg, xg_in, up2_ne, hν]
    · simp (disch := omega) only [up2_row, up2_k, hν]
    · exact frM.th.tr (.up (by omega))
    · skip
      have e : ∀ i : Nat, (i ≠ 5) → (up1 (μ 140) 5 x) i = μ 140 i := fun i hi => by simp (disch := omega) only [up1_ne]
      have eC : ∀ k i : Nat, (k ≠ 1) → (up2 μ 1 6 x) k i = μ k i := fun k i hi => by simp (disch := omega) only [up2_ne]
      refine ⟨yT_fr a1 (fun k i hk => eC k i (by unfold dT at hk; omega)) (fun i hi => e i (by unfold aT at hi; omega)), ?_, yG_fr a3 (fun k i hk => eC k i (by omega)) (fun i hi => e i (by omega)), yA_fr a4 (fun k i hk => eC k i (by unfold dA at hk; omega)) (fun i hi => e i (by unfold aA at hi; omega)), yE_fr a5 a4 (fun k i hk => eC k i (by unfold dE at hk; omega)) (fun i _ _ => eC 5 i (by omega)) (by rw [e 1 (by omega)]; exact Int.le_refl _) (fun i hi => e i (by unfold aE at hi; omega)), yB_fr a6 ⟨eC 2 3 (by omega), eC 2 4 (by omega)⟩ ⟨e 0 (by omega), e 1 (by omega)⟩ (fun s _ _ k i hk => eC k i (by unfold dS at hk; omega)) (fun i _ _ => eC 5 i (by omega)) (fun s _ _ i hi => e i (by unfold aS at hi; omega)), yW_fr a7 ⟨a4.1, a4.2.1⟩ (fun k i hk => eC k i (by omega)) (fun i hi => e i (by omega)), yP_fr a8 (by rw [e 7 (by omega)]; exact Int.le_refl _) (fun k i hk => eC k i (by omega)) (fun i hi => e i (by omega)) (fun u u0 u1 _ => e (41964 + u).toNat (by omega)) (fun u u0 u1 h => by rw [e (41724 + u).toNat (by omega)]; exact h), yO_fr a9 a4 a6 a5 ⟨e 0 (by omega), e 7 (by omega)⟩ (fun s _ _ i hi => e i (by unfold aS at hi; omega)) (fun i hi => e i (by omega)), yM_fr a10 a4 (fun i hi => e i (by omega)), yN_fr a11 a4 (fun i hi => e i (by omega)) (fun u u0 u1 h => by rw [e (41724 + u).toNat (by omega)]; exact h) (fun u u0 u1 h => by rw [e (41724 + u).toNat (by omega)] at h; exact h)⟩
      exact ⟨by rw [up2_eq, up1_eq], by rw [up1_eq]; exact hx⟩
  · refine .same h (-2) ?_ fun ν hν => ?_
    · rcases (show x < 1 ∨ 8 < x by omega) with g | g <;> simp (disch := omega) only [V147, B147_0, B147_1, B147_2, B147_3, if_pos, if_neg]
    · simp (disch := omega) only [V203, B203_0, B203_1, B203_2, in_f, xcI_some, if_pos, if_neg, if_true]
theorem op_tries (h : yAll μ) {x y : Int} : yOp sc 136 175 [vI x, vI y] μ := by
  obtain ⟨⟨a1, a2, a3, a4, a5, a6, a7, a8, a9, a10, a11⟩, hk⟩ := id h
  have n6 := a1.1
  have n3 := a1.2.1
  have n5 := a2.2
  have n10 : 0 ≤ μ 140 10 ∧ μ 140 10 ≤ 600 := ⟨a3.1, a3.2.1⟩
  have n7 : 0 ≤ μ 140 7 ∧ μ 140 7 ≤ 60 := ⟨a4.1, a4.2.1⟩
  have n0 : 0 ≤ μ 140 0 ∧ μ 140 0 ≤ 60 ∧ μ 2 3 = μ 140 0 := a6.1
  have n1 : 0 ≤ μ 140 1 ∧ μ 140 1 ≤ 1152 ∧ μ 2 4 = μ 140 1 := a6.2.1
  have n8 : 0 ≤ μ 140 8 ∧ μ 140 8 ≤ 60 := ⟨a7.1, a7.2.1⟩
  have n9 := a8.1
  have c7 := a4.2.2.1
  have c8 := a7.2.2.1
  have c10 := a3.2.2.1
  by_cases hx : 1 ≤ x ∧ x ≤ 9
  · by_cases hy : 1 ≤ y ∧ y ≤ x
    · refine .mk h 1 (up2 (up2 μ 59 6 x) 59 7 y) (up1 (up1 (μ 140) 3 x) 4 y) ?_ ((frC.up (by omega)).tr (.up (by omega))) (fun ν hν => ⟨up2 (up2 (up2 ν 139 3 0) 140 3 x) 140 4 y, ?_, ?_, ?_⟩) ?_
      · simp (disch := omega) only [V136, B136_0, B136_1, B136_2, B136_3, V125, B125_0, xcI_some, xcV_some, if_pos, if_neg]
      · simp (disch := omega) only [V175, B175_0, B175_1, B175_2, B175_3, B175_4, in_t, xcI_some, if_pos, if_neg, xg_in]
      · simp (disch := omega) only [up2_row, up2_k, hν]
      · exact frM.th.tr ((frM.up (by omega)).tr (.up (by omega)))
      · skip
        have e : ∀ i : Nat, (i ≠ 3 ∧ i ≠ 4) → (up1 (up1 (μ 140) 3 x) 4 y) i = μ 140 i := fun i hi => by simp (disch := omega) only [up1_ne]
        have eC : ∀ k i : Nat, (k ≠ 59 ∨ (i ≠ 6 ∧ i ≠ 7)) → (up2 (up2 μ 59 6 x) 59 7 y) k i = μ k i := fun k i hi => by simp (disch := omega) only [up2_ne]
        refine ⟨?_, yL_fr a2 (eC 1 6 (by omega)) (e 5 (by omega)), yG_fr a3 (fun k i hk => eC k i (by omega)) (fun i hi => e i (by omega)), yA_fr a4 (fun k i hk => eC k i (by unfold dA at hk; omega)) (fun i hi => e i (by unfold aA at hi; omega)), yE_fr a5 a4 (fun k i hk => eC k i (by unfold dE at hk; omega)) (fun i _ _ => eC 5 i (by omega)) (by rw [e 1 (by omega)]; exact Int.le_refl _) (fun i hi => e i (by unfold aE at hi; omega)), yB_fr a6 ⟨eC 2 3 (by omega), eC 2 4 (by omega)⟩ ⟨e 0 (by omega), e 1 (by omega)⟩ (fun s _ _ k i hk => eC k i (by unfold dS at hk; omega)) (fun i _ _ => eC 5 i (by omega)) (fun s _ _ i hi => e i (by unfold aS at hi; omega)), yW_fr a7 ⟨a4.1, a4.2.1⟩ (fun k i hk => eC k i (by omega)) (fun i hi => e i (by omega)), yP_fr a8 (by rw [e 7 (by omega)]; exact Int.le_refl _) (fun k i hk => eC k i (by omega)) (fun i hi => e i (by omega)) (fun u u0 u1 _ => e (41964 + u).toNat (by omega)) (fun u u0 u1 h => by rw [e (41724 + u).toNat (by omega)]; exact h), yO_fr a9 a4 a6 a5 ⟨e 0 (by omega), e 7 (by omega)⟩ (fun s _ _ i hi => e i (by unfold aS at hi; omega)) (fun i hi => e i (by omega)), yM_fr a10 a4 (fun i hi => e i (by omega)), yN_fr a11 a4 (fun i hi => e i (by omega)) (fun u u0 u1 h => by rw [e (41724 + u).toNat (by omega)]; exact h) (fun u u0 u1 h => by rw [e (41724 + u).toNat (by omega)] at h; exact h)⟩
        refine ⟨?_, ?_, ?_, fun t t0 t1 => ?_⟩
        · rw [e 6 (by omega), eC 59 5 (by omega)]; exact a1.1
        · rw [up2_ne (by omega), up2_eq, up2_eq, up1_ne (by omega), up1_eq, up1_eq]
          exact ⟨rfl, rfl, by omega, by omega, by omega⟩
        · rw [e 11 (by omega), e 2 (by omega), eC 59 8 (by omega), eC 59 9 (by omega)]; exact a1.2.2.1
        · rw [e 6 (by omega)] at t1
          have h2 := a1.2.2.2 t t0 t1
          rw [e (41484 + t).toNat (by omega), e (41508 + t).toNat (by omega), e (41532 + t).toNat (by omega), e (41556 + t).toNat (by omega), e (41580 + t).toNat (by omega), eC 61 t.toNat (by omega), eC 63 t.toNat (by omega), eC 65 t.toNat (by omega), eC 67 t.toNat (by omega), eC 69 t.toNat (by omega)]
          exact h2
    · refine .same h (-2) ?_ fun ν hν => ?_
      · rcases (show y < 1 ∨ x < y by omega) with g | g
        · simp (disch := omega) only [V136, B136_0, B136_1, B136_2, B136_3, if_pos, if_neg]
        · by_cases g2 : y < 1
          · simp (disch := omega) only [V136, B136_0, B136_1, B136_2, B136_3, if_pos, if_neg]
          · simp (disch := omega) only [V136, B136_0, B136_1, B136_2, B136_3, if_pos, if_neg]
      · simp (disch := omega) only [V175, B175_0, B175_1, B175_2, B175_3, B175_4, in_t, in_f, xcI_some, if_pos, if_neg, if_true]
  · refine .same h (-2) ?_ fun ν hν => ?_
    · rcases (show x < 1 ∨ 9 < x by omega) with g | g
      · simp (disch := omega) only [V136, B136_0, B136_1, B136_2, B136_3, if_pos, if_neg]
      · simp (disch := omega) only [V136, B136_0, B136_1, B136_2, B136_3, if_pos, if_neg]
    · simp (disch := omega) only [V175, B175_0, B175_1, B175_2, B175_3, B175_4, in_f, xcI_some, if_pos, if_neg, if_true]
theorem op_odds (h : yAll μ) {x y : Int} : yOp sc 135 174 [vI x, vI y] μ := by
  obtain ⟨⟨a1, a2, a3, a4, a5, a6, a7, a8, a9, a10, a11⟩, hk⟩ := id h
  have n6 := a1.1
  have n3 := a1.2.1
  have n5 := a2.2
  have n10 : 0 ≤ μ 140 10 ∧ μ 140 10 ≤ 600 := ⟨a3.1, a3.2.1⟩
  have n7 : 0 ≤ μ 140 7 ∧ μ 140 7 ≤ 60 := ⟨a4.1, a4.2.1⟩
  have n0 : 0 ≤ μ 140 0 ∧ μ 140 0 ≤ 60 ∧ μ 2 3 = μ 140 0 := a6.1
  have n1 : 0 ≤ μ 140 1 ∧ μ 140 1 ≤ 1152 ∧ μ 2 4 = μ 140 1 := a6.2.1
  have n8 : 0 ≤ μ 140 8 ∧ μ 140 8 ≤ 60 := ⟨a7.1, a7.2.1⟩
  have n9 := a8.1
  have c7 := a4.2.2.1
  have c8 := a7.2.2.1
  have c10 := a3.2.2.1
  by_cases hx : 0 ≤ x ∧ x < μ 140 6
  · by_cases hy : 0 ≤ y ∧ y ≤ 999
    · refine .mk h 1 (up2 μ 69 x.toNat y) (up1 (μ 140) (41580 + x).toNat y) ?_ (.up (by omega)) (fun ν hν => ⟨up2 (up2 ν 139 3 0) 140 (41580 + x).toNat y, ?_, ?_, ?_⟩) ?_
      · simp (disch := omega) only [V135, B135_0, B135_1, B135_2, B135_3, B135_4, B135_5, V119, B119_0, V124, B124_0, B124_1, isIn_t, S_7, S_9, S_11, S_13, S_15, S_17, S_19, S_21, S_24, S_26, S_28, S_30, S_32, S_34, S_36, S_39, S_42, S_44, S_46, S_48, S_50, S_52, S_55, S_57, S_60, S_62, S_64, S_66, S_68, st_in, xcI_some, xcV_some, if_pos, if_neg]
      · simp (disch := omega) only [V174, B174_0, B174_1, B174_2, B174_3, B174_4, in_t, mTest_t' (congrFun hν 6), xcI_some, if_pos, if_neg, xg_in, wr_of]
      · simp (disch := omega) only [up2_row, up2_k, hν]
      · exact frM.th.tr (.up (by omega))
      · skip
        have e : ∀ i : Nat, (i ≠ (41580 + x).toNat) → (up1 (μ 140) (41580 + x).toNat y) i = μ 140 i := fun i hi => by simp (disch := omega) only [up1_ne]
        have eC : ∀ k i : Nat, (k ≠ 69 ∨ i ≠ x.toNat) → (up2 μ 69 x.toNat y) k i = μ k i := fun k i hi => by simp (disch := omega) only [up2_ne]
        refine ⟨?_, yL_fr a2 (eC 1 6 (by omega)) (e 5 (by omega)), yG_fr a3 (fun k i hk => eC k i (by omega)) (fun i hi => e i (by omega)), yA_fr a4 (fun k i hk => eC k i (by unfold dA at hk; omega)) (fun i hi => e i (by unfold aA at hi; omega)), yE_fr a5 a4 (fun k i hk => eC k i (by unfold dE at hk; omega)) (fun i _ _ => eC 5 i (by omega)) (by rw [e 1 (by omega)]; exact Int.le_refl _) (fun i hi => e i (by unfold aE at hi; omega)), yB_fr a6 ⟨eC 2 3 (by omega), eC 2 4 (by omega)⟩ ⟨e 0 (by omega), e 1 (by omega)⟩ (fun s _ _ k i hk => eC k i (by unfold dS at hk; omega)) (fun i _ _ => eC 5 i (by omega)) (fun s _ _ i hi => e i (by unfold aS at hi; omega)), yW_fr a7 ⟨a4.1, a4.2.1⟩ (fun k i hk => eC k i (by omega)) (fun i hi => e i (by omega)), yP_fr a8 (by rw [e 7 (by omega)]; exact Int.le_refl _) (fun k i hk => eC k i (by omega)) (fun i hi => e i (by omega)) (fun u u0 u1 _ => e (41964 + u).toNat (by omega)) (fun u u0 u1 h => by rw [e (41724 + u).toNat (by omega)]; exact h), yO_fr a9 a4 a6 a5 ⟨e 0 (by omega), e 7 (by omega)⟩ (fun s _ _ i hi => e i (by unfold aS at hi; omega)) (fun i hi => e i (by omega)), yM_fr a10 a4 (fun i hi => e i (by omega)), yN_fr a11 a4 (fun i hi => e i (by omega)) (fun u u0 u1 h => by rw [e (41724 + u).toNat (by omega)]; exact h) (fun u u0 u1 h => by rw [e (41724 + u).toNat (by omega)] at h; exact h)⟩
        refine ⟨?_, ?_, ?_, fun t t0 t1 => ?_⟩
        · rw [e 6 (by omega), eC 59 5 (by omega)]; exact a1.1
        · rw [e 3 (by omega), e 4 (by omega), eC 59 6 (by omega), eC 59 7 (by omega)]; exact a1.2.1
        · rw [e 11 (by omega), e 2 (by omega), eC 59 8 (by omega), eC 59 9 (by omega)]; exact a1.2.2.1
        · rw [e 6 (by omega)] at t1
          have h2 := a1.2.2.2 t t0 t1
          rw [e (41484 + t).toNat (by omega), e (41508 + t).toNat (by omega), e (41532 + t).toNat (by omega), e (41556 + t).toNat (by omega), eC 61 t.toNat (by omega), eC 63 t.toNat (by omega), eC 65 t.toNat (by omega), eC 67 t.toNat (by omega)]
          by_cases hxt : t = x
          · subst hxt
            rw [up2_eq, up1_eq]
            unfold tOK at h2 ⊢
            exact ⟨h2.1, h2.2.1, h2.2.2.1, h2.2.2.2.1, rfl, by omega⟩
          · rw [e (41580 + t).toNat (by omega), eC 69 t.toNat (by omega)]
            exact h2
    · refine .same h (-2) ?_ fun ν hν => ?_
      · rcases (show y < 0 ∨ 999 < y by omega) with g | g
        · simp (disch := omega) only [V135, B135_0, B135_1, B135_2, B135_3, B135_4, B135_5, V119, B119_0, isIn_t, xcI_some, if_pos, if_neg]
        · simp (disch := omega) only [V135, B135_0, B135_1, B135_2, B135_3, B135_4, B135_5, V119, B119_0, isIn_t, xcI_some, if_pos, if_neg]
      · simp (disch := omega) only [V174, B174_0, B174_1, B174_2, B174_3, B174_4, in_t, in_f, mTest_t' (congrFun hν 6), xcI_some, if_pos, if_neg, if_true]
  · refine .same h (-2) ?_ fun ν hν => ?_
    · simp (disch := omega) only [V135, B135_0, B135_1, B135_2, B135_3, B135_4, B135_5, V119, B119_0, isIn_f, xcI_some, if_pos, if_neg, if_true]
    · simp (disch := omega) only [V174, B174_0, B174_1, B174_2, B174_3, B174_4, mTest_f' (congrFun hν 6), xcI_some, if_pos, if_neg, if_true]
end

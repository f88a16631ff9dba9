/-! calls, one by one: changes, without loops -/
section
variable {sc : Nat × (Nat → Int)} {μ : xM} {m : Nat → Int} {c : Int}
theorem q26 (h : yA μ m) (c0 : 0 ≤ c) (c1 : c < m 7) : EV sc 26 [vR 6, vI c] (SK, μ) = some (some (vI (m (41604 + c).toNat)), (SK, μ)) := by
  have h7 := h.2.1
  rw [V26, B26_0, G_7, xcI_some, B26_1, gt_in c0 (by omega), (h.2.2.2 c c0 c1).1.1]
theorem q27 (h : yA μ m) (c0 : 0 ≤ c) (c1 : c < m 7) : EV sc 27 [vR 6, vI c] (SK, μ) = some (some (vI (m (41724 + c).toNat)), (SK, μ)) := by
  have h7 := h.2.1
  rw [V27, B27_0, G_9, xcI_some, B27_1, gt_in c0 (by omega), (h.2.2.2 c c0 c1).1.2.1]
theorem q29 (h : yA μ m) (c0 : 0 ≤ c) (c1 : c < m 7) : EV sc 29 [vR 6, vI c] (SK, μ) = some (some (vI (m (41784 + c).toNat)), (SK, μ)) := by
  have h7 := h.2.1
  rw [V29, B29_0, G_13, xcI_some, B29_1, gt_in c0 (by omega), (h.2.2.2 c c0 c1).1.2.2.2.1]
theorem q31 (h : yA μ m) (c0 : 0 ≤ c) (c1 : c < m 7) : EV sc 31 [vR 6, vI c] (SK, μ) = some (some (vI (m (41844 + c).toNat)), (SK, μ)) := by
  have h7 := h.2.1
  rw [V31, B31_0, G_15, xcI_some, B31_1, gt_in c0 (by omega), (h.2.2.2 c c0 c1).1.2.2.2.2.1]
theorem q33 (h : yA μ m) (c0 : 0 ≤ c) (c1 : c < m 7) : EV sc 33 [vR 6, vI c] (SK, μ) = some (some (vI (m (41904 + c).toNat)), (SK, μ)) := by
  have h7 := h.2.1
  rw [V33, B33_0, G_21, xcI_some, B33_1, gt_in c0 (by omega), (h.2.2.2 c c0 c1).1.2.2.2.2.2.2.2]
theorem q34 (h : yA μ m) (c0 : 0 ≤ c) (c1 : c < m 7) : EV sc 34 [vR 6, vI c] (SK, μ) = some (some (vI (m (41964 + c).toNat)), (SK, μ)) := by
  have h7 := h.2.1
  rw [V34, B34_0, G_17, xcI_some, B34_1, gt_in c0 (by omega), (h.2.2.2 c c0 c1).1.2.2.2.2.2.1]
/-- one value of one change set anew -/
theorem yA_set {C C' : xM} {m m' : Nat → Int} (h : yA C m) {k : Nat} {b v : Int} (hb : (k = 8 ∧ b = 41604) ∨ (k = 10 ∧ b = 41724) ∨ (k = 12 ∧ b = 41664) ∨ (k = 14 ∧ b = 41784) ∨ (k = 16 ∧ b = 41844) ∨ (k = 20 ∧ b = 42024 ∧ (v = 0 ∨ v = 1))) (c0 : 0 ≤ c) (c1 : c < m 7)
    (hC1 : C' k c.toNat = v) (hm1 : m' (b + c).toNat = v) (hC : ∀ k' i, dA (m 7) k' i → (k' ≠ k ∨ i ≠ c.toNat) → C' k' i = C k' i) (hm : ∀ i, aA (m 7) i → i ≠ (b + c).toNat → m' i = m i) : yA C' m' := by
  obtain ⟨h1, h2, h3, h4⟩ := h
  have m7 : m' 7 = m 7 := hm 7 (by unfold aA; omega) (by omega)
  unfold yA
  rw [m7, hC 6 9 (by unfold dA; omega) (by omega)]
  refine ⟨h1, h2, h3, fun d d0 d1 => ?_⟩
  have g := h4 d d0 d1
  by_cases e : d = c
  · subst e
    rcases hb with ⟨hk, hb⟩ | ⟨hk, hb⟩ | ⟨hk, hb⟩ | ⟨hk, hb⟩ | ⟨hk, hb⟩ | ⟨hk, hb, hv⟩ <;> subst hk <;> subst hb
    · have q2 := hm (41724 + d).toNat (by unfold aA; omega) (by omega)
      have q3 := hm (41664 + d).toNat (by unfold aA; omega) (by omega)
      have q4 := hm (41784 + d).toNat (by unfold aA; omega) (by omega)
      have q5 := hm (41844 + d).toNat (by unfold aA; omega) (by omega)
      have q6 := hm (41964 + d).toNat (by unfold aA; omega) (by omega)
      have q7 := hm (42024 + d).toNat (by unfold aA; omega) (by omega)
      have q8 := hm (41904 + d).toNat (by unfold aA; omega) (by omega)
      rw [hC1, hm1, q2, q3, q4, q5, q6, q7, q8, hC 10 d.toNat (by unfold dA; omega) (by omega), hC 12 d.toNat (by unfold dA; omega) (by omega), hC 14 d.toNat (by unfold dA; omega) (by omega), hC 16 d.toNat (by unfold dA; omega) (by omega), hC 18 d.toNat (by unfold dA; omega) (by omega), hC 20 d.toNat (by unfold dA; omega) (by omega), hC 22 d.toNat (by unfold dA; omega) (by omega)]
      refine ⟨⟨rfl, g.1.2⟩, g.2.1, g.2.2.1, ?_⟩
      rcases g.2.2.2 with g4 | g4
      · exact Or.inl g4
      · exact Or.inr ⟨g4.1, g4.2.1, g4.2.2.1, by rw [hm _ (by unfold aA; omega) (by omega)]; exact g4.2.2.2⟩
    · have q1 := hm (41604 + d).toNat (by unfold aA; omega) (by omega)
      have q3 := hm (41664 + d).toNat (by unfold aA; omega) (by omega)
      have q4 := hm (41784 + d).toNat (by unfold aA; omega) (by omega)
      have q5 := hm (41844 + d).toNat (by unfold aA; omega) (by omega)
      have q6 := hm (41964 + d).toNat (by unfold aA; omega) (by omega)
      have q7 := hm (42024 + d).toNat (by unfold aA; omega) (by omega)
      have q8 := hm (41904 + d).toNat (by unfold aA; omega) (by omega)
      rw [hC1, hm1, q1, q3, q4, q5, q6, q7, q8, hC 8 d.toNat (by unfold dA; omega) (by omega), hC 12 d.toNat (by unfold dA; omega) (by omega), hC 14 d.toNat (by unfold dA; omega) (by omega), hC 16 d.toNat (by unfold dA; omega) (by omega), hC 18 d.toNat (by unfold dA; omega) (by omega), hC 20 d.toNat (by unfold dA; omega) (by omega), hC 22 d.toNat (by unfold dA; omega) (by omega)]
      refine ⟨⟨g.1.1, rfl, g.1.2.2⟩, g.2.1, g.2.2.1, ?_⟩
      rcases g.2.2.2 with g4 | g4
      · exact Or.inl g4
      · exact Or.inr ⟨g4.1, g4.2.1, g4.2.2.1, by rw [hm _ (by unfold aA; omega) (by omega)]; exact g4.2.2.2⟩
    · have q1 := hm (41604 + d).toNat (by unfold aA; omega) (by omega)
      have q3 := hm (41724 + d).toNat (by unfold aA; omega) (by omega)
      have q4 := hm (41784 + d).toNat (by unfold aA; omega) (by omega)
      have q5 := hm (41844 + d).toNat (by unfold aA; omega) (by omega)
      have q6 := hm (41964 + d).toNat (by unfold aA; omega) (by omega)
      have q7 := hm (42024 + d).toNat (by unfold aA; omega) (by omega)
      have q8 := hm (41904 + d).toNat (by unfold aA; omega) (by omega)
      rw [hC1, hm1, q1, q3, q4, q5, q6, q7, q8, hC 8 d.toNat (by unfold dA; omega) (by omega), hC 10 d.toNat (by unfold dA; omega) (by omega), hC 14 d.toNat (by unfold dA; omega) (by omega), hC 16 d.toNat (by unfold dA; omega) (by omega), hC 18 d.toNat (by unfold dA; omega) (by omega), hC 20 d.toNat (by unfold dA; omega) (by omega), hC 22 d.toNat (by unfold dA; omega) (by omega)]
      refine ⟨⟨g.1.1, g.1.2.1, rfl, g.1.2.2.2⟩, g.2.1, g.2.2.1, ?_⟩
      rcases g.2.2.2 with g4 | g4
      · exact Or.inl g4
      · exact Or.inr ⟨g4.1, g4.2.1, g4.2.2.1, by rw [hm _ (by unfold aA; omega) (by omega)]; exact g4.2.2.2⟩
    · have q1 := hm (41604 + d).toNat (by unfold aA; omega) (by omega)
      have q3 := hm (41724 + d).toNat (by unfold aA; omega) (by omega)
      have q4 := hm (41664 + d).toNat (by unfold aA; omega) (by omega)
      have q5 := hm (41844 + d).toNat (by unfold aA; omega) (by omega)
      have q6 := hm (41964 + d).toNat (by unfold aA; omega) (by omega)
      have q7 := hm (42024 + d).toNat (by unfold aA; omega) (by omega)
      have q8 := hm (41904 + d).toNat (by unfold aA; omega) (by omega)
      rw [hC1, hm1, q1, q3, q4, q5, q6, q7, q8, hC 8 d.toNat (by unfold dA; omega) (by omega), hC 10 d.toNat (by unfold dA; omega) (by omega), hC 12 d.toNat (by unfold dA; omega) (by omega), hC 16 d.toNat (by unfold dA; omega) (by omega), hC 18 d.toNat (by unfold dA; omega) (by omega), hC 20 d.toNat (by unfold dA; omega) (by omega), hC 22 d.toNat (by unfold dA; omega) (by omega)]
      refine ⟨⟨g.1.1, g.1.2.1, g.1.2.2.1, rfl, g.1.2.2.2.2⟩, g.2.1, g.2.2.1, ?_⟩
      rcases g.2.2.2 with g4 | g4
      · exact Or.inl g4
      · exact Or.inr ⟨g4.1, g4.2.1, g4.2.2.1, by rw [hm _ (by unfold aA; omega) (by omega)]; exact g4.2.2.2⟩
    · have q1 := hm (41604 + d).toNat (by unfold aA; omega) (by omega)
      have q3 := hm (41724 + d).toNat (by unfold aA; omega) (by omega)
      have q4 := hm (41664 + d).toNat (by unfold aA; omega) (by omega)
      have q5 := hm (41784 + d).toNat (by unfold aA; omega) (by omega)
      have q6 := hm (41964 + d).toNat (by unfold aA; omega) (by omega)
      have q7 := hm (42024 + d).toNat (by unfold aA; omega) (by omega)
      have q8 := hm (41904 + d).toNat (by unfold aA; omega) (by omega)
      rw [hC1, hm1, q1, q3, q4, q5, q6, q7, q8, hC 8 d.toNat (by unfold dA; omega) (by omega), hC 10 d.toNat (by unfold dA; omega) (by omega), hC 12 d.toNat (by unfold dA; omega) (by omega), hC 14 d.toNat (by unfold dA; omega) (by omega), hC 18 d.toNat (by unfold dA; omega) (by omega), hC 20 d.toNat (by unfold dA; omega) (by omega), hC 22 d.toNat (by unfold dA; omega) (by omega)]
      refine ⟨⟨g.1.1, g.1.2.1, g.1.2.2.1, g.1.2.2.2.1, rfl, g.1.2.2.2.2.2⟩, g.2.1, g.2.2.1, ?_⟩
      rcases g.2.2.2 with g4 | g4
      · exact Or.inl g4
      · exact Or.inr ⟨g4.1, g4.2.1, g4.2.2.1, by rw [hm _ (by unfold aA; omega) (by omega)]; exact g4.2.2.2⟩
    · have q1 := hm (41604 + d).toNat (by unfold aA; omega) (by omega)
      have q3 := hm (41724 + d).toNat (by unfold aA; omega) (by omega)
      have q4 := hm (41664 + d).toNat (by unfold aA; omega) (by omega)
      have q5 := hm (41784 + d).toNat (by unfold aA; omega) (by omega)
      have q6 := hm (41964 + d).toNat (by unfold aA; omega) (by omega)
      have q7 := hm (41844 + d).toNat (by unfold aA; omega) (by omega)
      have q8 := hm (41904 + d).toNat (by unfold aA; omega) (by omega)
      rw [hC1, hm1, q1, q3, q4, q5, q6, q7, q8, hC 8 d.toNat (by unfold dA; omega) (by omega), hC 10 d.toNat (by unfold dA; omega) (by omega), hC 12 d.toNat (by unfold dA; omega) (by omega), hC 14 d.toNat (by unfold dA; omega) (by omega), hC 16 d.toNat (by unfold dA; omega) (by omega), hC 18 d.toNat (by unfold dA; omega) (by omega), hC 22 d.toNat (by unfold dA; omega) (by omega)]
      refine ⟨⟨g.1.1, g.1.2.1, g.1.2.2.1, g.1.2.2.2.1, g.1.2.2.2.2.1, g.1.2.2.2.2.2.1, rfl, g.1.2.2.2.2.2.2.2⟩, g.2.1, hv, ?_⟩
      rcases g.2.2.2 with g4 | g4
      · exact Or.inl g4
      · exact Or.inr ⟨g4.1, g4.2.1, g4.2.2.1, by rw [hm _ (by unfold aA; omega) (by omega)]; exact g4.2.2.2⟩
  · have g2 := yAc_fr (C' := C') (m' := m') g (fun k' hk => hC k' _ (by unfold dA; omega) (by omega)) (fun a ha => hm _ (by unfold aA; omega) (by omega)) (by omega) (fun d d0 d1 => hm _ (by unfold aA; omega) (by omega))
    unfold yAc at g2
    rw [m7] at g2
    exact g2
theorem op_hand (h : yAll μ) {x y : Int} (hy : y = 0 ∨ y = 1) : yOp sc 146 202 [vI x, vI y] μ := by
  obtain ⟨⟨a1, a2, a3, a4, a5, a6, a7, a8, a9, a10, a11⟩, hk⟩ := id h
  have n6 := a1.1
  have n3 := a1.2.1
  have n5 := a2.2
  have n10 : 0 ≤ μ 140 10 ∧ μ 140 10 ≤ 600 := ⟨a3.1, a3.2.1⟩
  have n7 : 0 ≤ μ 140 7 ∧ μ 140 7 ≤ 60 := ⟨a4.1, a4.2.1⟩
  have n0 : 0 ≤ μ 140 0 ∧ μ 140 0 ≤ 60 ∧ μ 2 3 = μ 140 0 := a6.1
  have n1 : 0 ≤ μ 140 1 ∧ μ 140 1 ≤ 1152 ∧ μ 2 4 = μ 140 1 := a6.2.1
  have n8 : 0 ≤ μ 140 8 ∧ μ 140 8 ≤ 60 := ⟨a7.1, a7.2.1⟩
  have n9 := a8.1
  have c7 := a4.2.2.1
  have c8 := a7.2.2.1
  have c10 := a3.2.2.1
  by_cases hx : 0 ≤ x ∧ x < μ 140 7
  · have g := (a4.2.2.2 x hx.1 hx.2).1
    by_cases h3 : μ 140 (41604 + x).toNat = 3
    · have hn : ∀ ν : xM, EV sc 160 [vI y] (SK, ν) = some (some (vI y), (SK, ν)) := fun ν => by
        rcases hy with e | e <;> subst e <;> simp (disch := omega) only [V160, B160_0, B160_1, B160_2, xcI_some, xcV_some, if_pos, if_neg, xg_in, wr_of, if_true, if_false, or_true, true_or]
      refine .mk h (μ 140 (42024 + x).toNat) (up2 μ 20 x.toNat y) (up1 (μ 140) (42024 + x).toNat y) ?_ (.up (by omega)) (fun ν hν => ⟨up2 (up2 ν 139 3 0) 140 (42024 + x).toNat y, ?_, ?_, ?_⟩) ?_
      · simp (disch := omega) only [V146, B146_0, B146_1, B146_2, B146_3, B146_4, B146_5, B146_6, cChange_t, q26 a4 hx.1 hx.2, hn, V37, B37_0, B37_1, B37_2, G_7, G_9, G_11, G_13, G_15, G_17, G_19, G_21, G_24, G_26, G_28, G_30, G_32, G_34, G_36, G_39, G_42, G_44, G_46, G_48, G_50, G_52, G_55, G_57, G_60, G_62, G_64, G_66, G_68, S_7, S_9, S_11, S_13, S_15, S_17, S_19, S_21, S_24, S_26, S_28, S_30, S_32, S_34, S_36, S_39, S_42, S_44, S_46, S_48, S_50, S_52, S_55, S_57, S_60, S_62, S_64, S_66, S_68, gt_in, st_in, g.2.2.2.2.2.2.1, xcI_some, xcV_some, if_pos, if_neg, xg_in, wr_of, if_true, if_false, or_true, true_or]
      · rcases hy with e | e <;> subst e <;> simp (disch := omega) only [V202, B202_0, B202_1, B202_2, B202_3, B202_4, B202_5, mChange_t' (congrFun hν 7), up2_ne, hν, xcI_some, xcV_some, if_pos, if_neg, xg_in, wr_of, if_true, if_false, or_true, true_or]
      · simp (disch := omega) only [up2_row, up2_k, hν]
      · exact frM.th.tr (.up (by omega))
      · skip
        have e : ∀ i : Nat, (i ≠ (42024 + x).toNat) → (up1 (μ 140) (42024 + x).toNat y) i = μ 140 i := fun i hi => by simp (disch := omega) only [up1_ne]
        have eC : ∀ k i : Nat, (k ≠ 20 ∨ i ≠ x.toNat) → (up2 μ 20 x.toNat y) k i = μ k i := fun k i hi => by simp (disch := omega) only [up2_ne]
        refine ⟨yT_fr a1 (fun k i hk => eC k i (by unfold dT at hk; omega)) (fun i hi => e i (by unfold aT at hi; omega)), yL_fr a2 (eC 1 6 (by omega)) (e 5 (by omega)), yG_fr a3 (fun k i hk => eC k i (by omega)) (fun i hi => e i (by omega)), ?_, yE_fr a5 a4 (fun k i hk => eC k i (by unfold dE at hk; omega)) (fun i _ _ => eC 5 i (by omega)) (by rw [e 1 (by omega)]; exact Int.le_refl _) (fun i hi => e i (by unfold aE at hi; omega)), yB_fr a6 ⟨eC 2 3 (by omega), eC 2 4 (by omega)⟩ ⟨e 0 (by omega), e 1 (by omega)⟩ (fun s _ _ k i hk => eC k i (by unfold dS at hk; omega)) (fun i _ _ => eC 5 i (by omega)) (fun s _ _ i hi => e i (by unfold aS at hi; omega)), yW_fr a7 ⟨a4.1, a4.2.1⟩ (fun k i hk => eC k i (by omega)) (fun i hi => e i (by omega)), yP_fr a8 (by rw [e 7 (by omega)]; exact Int.le_refl _) (fun k i hk => eC k i (by omega)) (fun i hi => e i (by omega)) (fun u u0 u1 _ => e (41964 + u).toNat (by omega)) (fun u u0 u1 h => by rw [e (41724 + u).toNat (by omega)]; exact h), yO_fr a9 a4 a6 a5 ⟨e 0 (by omega), e 7 (by omega)⟩ (fun s _ _ i hi => e i (by unfold aS at hi; omega)) (fun i hi => e i (by omega)), yM_fr a10 a4 (fun i hi => e i (by omega)), yN_fr a11 a4 (fun i hi => e i (by omega)) (fun u u0 u1 h => by rw [e (41724 + u).toNat (by omega)]; exact h) (fun u u0 u1 h => by rw [e (41724 + u).toNat (by omega)] at h; exact h)⟩
        exact yA_set a4 (Or.inr (Or.inr (Or.inr (Or.inr (Or.inr ⟨rfl, rfl, hy⟩))))) hx.1 hx.2 up2_eq up1_eq (fun k i _ hi => eC k i hi) (fun i _ hi => e i hi)
    · refine .same h (-3) ?_ fun ν hν => ?_
      · simp (disch := omega) only [V146, B146_0, B146_1, B146_2, B146_3, B146_4, B146_5, B146_6, cChange_t, q26 a4 hx.1 hx.2, xcI_some, xcV_some, if_pos, if_neg, xg_in, wr_of, if_true, if_false, or_true, true_or]
      · simp (disch := omega) only [V202, B202_0, B202_1, B202_2, B202_3, B202_4, B202_5, mChange_t' (congrFun hν 7), up2_ne, hν, xcI_some, xcV_some, if_pos, if_neg, xg_in, wr_of, if_true, if_false, or_true, true_or]
  · refine .same h (-2) ?_ fun ν hν => ?_
    · simp (disch := omega) only [V146, B146_0, B146_1, B146_2, B146_3, B146_4, B146_5, B146_6, cChange_f, xcI_some, xcV_some, if_pos, if_neg, xg_in, wr_of, if_true, if_false, or_true, true_or]
    · simp (disch := omega) only [V202, B202_0, B202_1, B202_2, B202_3, B202_4, B202_5, mChange_f' (congrFun hν 7), xcI_some, xcV_some, if_pos, if_neg, xg_in, wr_of, if_true, if_false, or_true, true_or]
end

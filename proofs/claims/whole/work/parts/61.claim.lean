/-! the first state; all calls of a script; the claim (its last rows are the skeleton's) -/
theorem law_0 {sc : Nat × (Nat → Int)} {k : Nat} {i : Int} {μ : xM} (hL : (sc.1 : Int) ≤ 3585) (hs : ∀ j : Nat, -2147483648 ≤ sc.2 j ∧ sc.2 j < 2147483648) (ih : ∀ (i : Int) (μ : xM), yAll μ → 1 ≤ i → (sc.1 : Int) ≤ i + k → ∃ μ' : xM, AT sc 233 5 [vS, vR 0, vR 139, vI i] [] (SK, μ) = some (some (vI 1), (SK, μ'))) (h : yAll μ) (i1 : 1 ≤ i) (hi : (sc.1 : Int) ≤ i + (k + 1)) (hx : i ≤ (sc.1 : Int) - 7) (hq : sc.2 i.toNat % 32 = 0) : ∃ μ' : xM, AT sc 233 5 [vS, vR 0, vR 139, vI i] [] (SK, μ) = some (some (vI 1), (SK, μ')) := by
  obtain ⟨r, μ1, μ2, e1, e2, e3⟩ := op_line (sc := sc) h (f := sc.2 (i + 1).toNat) (v := sc.2 (i + 2).toNat)
  obtain ⟨μ', e4⟩ := ih (i + 7) μ2 e3 (by omega) (by omega)
  exact ⟨μ', by rw [B233_5]; simp (disch := omega) only [hq, B233_6, e1, B233_7, e2, B233_8, B233_88, e4, if_true, if_false, xg_in, wr_of, if_pos, if_neg, xcI_some, or_true, true_or]⟩
theorem law_1 {sc : Nat × (Nat → Int)} {k : Nat} {i : Int} {μ : xM} (hL : (sc.1 : Int) ≤ 3585) (hs : ∀ j : Nat, -2147483648 ≤ sc.2 j ∧ sc.2 j < 2147483648) (ih : ∀ (i : Int) (μ : xM), yAll μ → 1 ≤ i → (sc.1 : Int) ≤ i + k → ∃ μ' : xM, AT sc 233 5 [vS, vR 0, vR 139, vI i] [] (SK, μ) = some (some (vI 1), (SK, μ'))) (h : yAll μ) (i1 : 1 ≤ i) (hi : (sc.1 : Int) ≤ i + (k + 1)) (hx : i ≤ (sc.1 : Int) - 7) (hq : sc.2 i.toNat % 32 = 1) : ∃ μ' : xM, AT sc 233 5 [vS, vR 0, vR 139, vI i] [] (SK, μ) = some (some (vI 1), (SK, μ')) := by
  obtain ⟨r, μ1, μ2, e1, e2, e3⟩ := op_test (sc := sc) h (kd := sc.2 (i + 1).toNat) (a := sc.2 (i + 2).toNat) (b := sc.2 (i + 3).toNat) (c := sc.2 (i + 4).toNat)
  obtain ⟨μ', e4⟩ := ih (i + 7) μ2 e3 (by omega) (by omega)
  exact ⟨μ', by rw [B233_5]; simp (disch := omega) only [hq, B233_9, e1, B233_10, e2, B233_11, B233_88, e4, if_true, if_false, xg_in, wr_of, if_pos, if_neg, xcI_some, or_true, true_or]⟩
theorem law_2 {sc : Nat × (Nat → Int)} {k : Nat} {i : Int} {μ : xM} (hL : (sc.1 : Int) ≤ 3585) (hs : ∀ j : Nat, -2147483648 ≤ sc.2 j ∧ sc.2 j < 2147483648) (ih : ∀ (i : Int) (μ : xM), yAll μ → 1 ≤ i → (sc.1 : Int) ≤ i + k → ∃ μ' : xM, AT sc 233 5 [vS, vR 0, vR 139, vI i] [] (SK, μ) = some (some (vI 1), (SK, μ'))) (h : yAll μ) (i1 : 1 ≤ i) (hi : (sc.1 : Int) ≤ i + (k + 1)) (hx : i ≤ (sc.1 : Int) - 7) (hq : sc.2 i.toNat % 32 = 2) : ∃ μ' : xM, AT sc 233 5 [vS, vR 0, vR 139, vI i] [] (SK, μ) = some (some (vI 1), (SK, μ')) := by
  obtain ⟨r, μ1, μ2, e1, e2, e3⟩ := op_odds (sc := sc) h (x := sc.2 (i + 1).toNat) (y := sc.2 (i + 2).toNat)
  obtain ⟨μ', e4⟩ := ih (i + 7) μ2 e3 (by omega) (by omega)
  exact ⟨μ', by rw [B233_5]; simp (disch := omega) only [hq, B233_12, e1, B233_13, e2, B233_14, B233_88, e4, if_true, if_false, xg_in, wr_of, if_pos, if_neg, xcI_some, or_true, true_or]⟩
theorem law_3 {sc : Nat × (Nat → Int)} {k : Nat} {i : Int} {μ : xM} (hL : (sc.1 : Int) ≤ 3585) (hs : ∀ j : Nat, -2147483648 ≤ sc.2 j ∧ sc.2 j < 2147483648) (ih : ∀ (i : Int) (μ : xM), yAll μ → 1 ≤ i → (sc.1 : Int) ≤ i + k → ∃ μ' : xM, AT sc 233 5 [vS, vR 0, vR 139, vI i] [] (SK, μ) = some (some (vI 1), (SK, μ'))) (h : yAll μ) (i1 : 1 ≤ i) (hi : (sc.1 : Int) ≤ i + (k + 1)) (hx : i ≤ (sc.1 : Int) - 7) (hq : sc.2 i.toNat % 32 = 3) : ∃ μ' : xM, AT sc 233 5 [vS, vR 0, vR 139, vI i] [] (SK, μ) = some (some (vI 1), (SK, μ')) := by
  obtain ⟨r, μ1, μ2, e1, e2, e3⟩ := op_tries (sc := sc) h (x := sc.2 (i + 1).toNat) (y := sc.2 (i + 2).toNat)
  obtain ⟨μ', e4⟩ := ih (i + 7) μ2 e3 (by omega) (by omega)
  exact ⟨μ', by rw [B233_5]; simp (disch := omega) only [hq, B233_15, e1, B233_16, e2, B233_17, B233_88, e4, if_true, if_false, xg_in, wr_of, if_pos, if_neg, xcI_some, or_true, true_or]⟩
theorem law_4 {sc : Nat × (Nat → Int)} {k : Nat} {i : Int} {μ : xM} (hL : (sc.1 : Int) ≤ 3585) (hs : ∀ j : Nat, -2147483648 ≤ sc.2 j ∧ sc.2 j < 2147483648) (ih : ∀ (i : Int) (μ : xM), yAll μ → 1 ≤ i → (sc.1 : Int) ≤ i + k → ∃ μ' : xM, AT sc 233 5 [vS, vR 0, vR 139, vI i] [] (SK, μ) = some (some (vI 1), (SK, μ'))) (h : yAll μ) (i1 : 1 ≤ i) (hi : (sc.1 : Int) ≤ i + (k + 1)) (hx : i ≤ (sc.1 : Int) - 7) (hq : sc.2 i.toNat % 32 = 4) : ∃ μ' : xM, AT sc 233 5 [vS, vR 0, vR 139, vI i] [] (SK, μ) = some (some (vI 1), (SK, μ')) := by
  obtain ⟨r, μ1, μ2, e1, e2, e3⟩ := op_holds (sc := sc) h (t := sc.2 (i + 1).toNat) (s := sc.2 (i + 2).toNat)
  obtain ⟨μ', e4⟩ := ih (i + 7) μ2 e3 (by omega) (by omega)
  exact ⟨μ', by rw [B233_5]; simp (disch := omega) only [hq, B233_18, e1, B233_19, e2, B233_20, B233_88, e4, if_true, if_false, xg_in, wr_of, if_pos, if_neg, xcI_some, or_true, true_or]⟩
theorem law_5 {sc : Nat × (Nat → Int)} {k : Nat} {i : Int} {μ : xM} (hL : (sc.1 : Int) ≤ 3585) (hs : ∀ j : Nat, -2147483648 ≤ sc.2 j ∧ sc.2 j < 2147483648) (ih : ∀ (i : Int) (μ : xM), yAll μ → 1 ≤ i → (sc.1 : Int) ≤ i + k → ∃ μ' : xM, AT sc 233 5 [vS, vR 0, vR 139, vI i] [] (SK, μ) = some (some (vI 1), (SK, μ'))) (h : yAll μ) (i1 : 1 ≤ i) (hi : (sc.1 : Int) ≤ i + (k + 1)) (hx : i ≤ (sc.1 : Int) - 7) (hq : sc.2 i.toNat % 32 = 5) : ∃ μ' : xM, AT sc 233 5 [vS, vR 0, vR 139, vI i] [] (SK, μ) = some (some (vI 1), (SK, μ')) := by
  obtain ⟨r, μ1, μ2, e1, e2, e3⟩ := op_change (sc := sc) h (kd := sc.2 (i + 1).toNat)
  obtain ⟨μ', e4⟩ := ih (i + 7) μ2 e3 (by omega) (by omega)
  exact ⟨μ', by rw [B233_5]; simp (disch := omega) only [hq, B233_21, e1, B233_22, e2, B233_23, B233_88, e4, if_true, if_false, xg_in, wr_of, if_pos, if_neg, xcI_some, or_true, true_or]⟩
theorem law_6 {sc : Nat × (Nat → Int)} {k : Nat} {i : Int} {μ : xM} (hL : (sc.1 : Int) ≤ 3585) (hs : ∀ j : Nat, -2147483648 ≤ sc.2 j ∧ sc.2 j < 2147483648) (ih : ∀ (i : Int) (μ : xM), yAll μ → 1 ≤ i → (sc.1 : Int) ≤ i + k → ∃ μ' : xM, AT sc 233 5 [vS, vR 0, vR 139, vI i] [] (SK, μ) = some (some (vI 1), (SK, μ'))) (h : yAll μ) (i1 : 1 ≤ i) (hi : (sc.1 : Int) ≤ i + (k + 1)) (hx : i ≤ (sc.1 : Int) - 7) (hq : sc.2 i.toNat % 32 = 6) : ∃ μ' : xM, AT sc 233 5 [vS, vR 0, vR 139, vI i] [] (SK, μ) = some (some (vI 1), (SK, μ')) := by
  obtain ⟨r, μ1, μ2, e1, e2, e3⟩ := op_edit (sc := sc) h (c := sc.2 (i + 1).toNat) (f := sc.2 (i + 2).toNat) (a := sc.2 (i + 3).toNat) (t := sc.2 (i + 4).toNat) (p := sc.2 (i + 5).toNat) (v := sc.2 (i + 6).toNat)
  obtain ⟨μ', e4⟩ := ih (i + 7) μ2 e3 (by omega) (by omega)
  exact ⟨μ', by rw [B233_5]; simp (disch := omega) only [hq, B233_24, e1, B233_25, e2, B233_26, B233_88, e4, if_true, if_false, xg_in, wr_of, if_pos, if_neg, xcI_some, or_true, true_or]⟩
theorem law_7 {sc : Nat × (Nat → Int)} {k : Nat} {i : Int} {μ : xM} (hL : (sc.1 : Int) ≤ 3585) (hs : ∀ j : Nat, -2147483648 ≤ sc.2 j ∧ sc.2 j < 2147483648) (ih : ∀ (i : Int) (μ : xM), yAll μ → 1 ≤ i → (sc.1 : Int) ≤ i + k → ∃ μ' : xM, AT sc 233 5 [vS, vR 0, vR 139, vI i] [] (SK, μ) = some (some (vI 1), (SK, μ'))) (h : yAll μ) (i1 : 1 ≤ i) (hi : (sc.1 : Int) ≤ i + (k + 1)) (hx : i ≤ (sc.1 : Int) - 7) (hq : sc.2 i.toNat % 32 = 7) : ∃ μ' : xM, AT sc 233 5 [vS, vR 0, vR 139, vI i] [] (SK, μ) = some (some (vI 1), (SK, μ')) := by
  obtain ⟨r, μ1, μ2, e1, e2, e3⟩ := op_revert (sc := sc) h (c := sc.2 (i + 1).toNat)
  obtain ⟨μ', e4⟩ := ih (i + 7) μ2 e3 (by omega) (by omega)
  exact ⟨μ', by rw [B233_5]; simp (disch := omega) only [hq, B233_27, e1, B233_28, e2, B233_29, B233_88, e4, if_true, if_false, xg_in, wr_of, if_pos, if_neg, xcI_some, or_true, true_or]⟩
theorem law_8 {sc : Nat × (Nat → Int)} {k : Nat} {i : Int} {μ : xM} (hL : (sc.1 : Int) ≤ 3585) (hs : ∀ j : Nat, -2147483648 ≤ sc.2 j ∧ sc.2 j < 2147483648) (ih : ∀ (i : Int) (μ : xM), yAll μ → 1 ≤ i → (sc.1 : Int) ≤ i + k → ∃ μ' : xM, AT sc 233 5 [vS, vR 0, vR 139, vI i] [] (SK, μ) = some (some (vI 1), (SK, μ'))) (h : yAll μ) (i1 : 1 ≤ i) (hi : (sc.1 : Int) ≤ i + (k + 1)) (hx : i ≤ (sc.1 : Int) - 7) (hq : sc.2 i.toNat % 32 = 8) : ∃ μ' : xM, AT sc 233 5 [vS, vR 0, vR 139, vI i] [] (SK, μ) = some (some (vI 1), (SK, μ')) := by
  obtain ⟨r, μ1, μ2, e1, e2, e3⟩ := op_pair (sc := sc) h (a := sc.2 (i + 1).toNat) (b := sc.2 (i + 2).toNat)
  obtain ⟨μ', e4⟩ := ih (i + 7) μ2 e3 (by omega) (by omega)
  exact ⟨μ', by rw [B233_5]; simp (disch := omega) only [hq, B233_30, e1, B233_31, e2, B233_32, B233_88, e4, if_true, if_false, xg_in, wr_of, if_pos, if_neg, xcI_some, or_true, true_or]⟩
theorem law_9 {sc : Nat × (Nat → Int)} {k : Nat} {i : Int} {μ : xM} (hL : (sc.1 : Int) ≤ 3585) (hs : ∀ j : Nat, -2147483648 ≤ sc.2 j ∧ sc.2 j < 2147483648) (ih : ∀ (i : Int) (μ : xM), yAll μ → 1 ≤ i → (sc.1 : Int) ≤ i + k → ∃ μ' : xM, AT sc 233 5 [vS, vR 0, vR 139, vI i] [] (SK, μ) = some (some (vI 1), (SK, μ'))) (h : yAll μ) (i1 : 1 ≤ i) (hi : (sc.1 : Int) ≤ i + (k + 1)) (hx : i ≤ (sc.1 : Int) - 7) (hq : sc.2 i.toNat % 32 = 9) : ∃ μ' : xM, AT sc 233 5 [vS, vR 0, vR 139, vI i] [] (SK, μ) = some (some (vI 1), (SK, μ')) := by
  obtain ⟨r, μ1, μ2, e1, e2, e3⟩ := op_fits (sc := sc) h (c := sc.2 (i + 1).toNat)
  obtain ⟨μ', e4⟩ := ih (i + 7) μ2 e3 (by omega) (by omega)
  exact ⟨μ', by rw [B233_5]; simp (disch := omega) only [hq, B233_33, e1, B233_34, e2, B233_35, B233_88, e4, if_true, if_false, xg_in, wr_of, if_pos, if_neg, xcI_some, or_true, true_or]⟩
theorem law_10 {sc : Nat × (Nat → Int)} {k : Nat} {i : Int} {μ : xM} (hL : (sc.1 : Int) ≤ 3585) (hs : ∀ j : Nat, -2147483648 ≤ sc.2 j ∧ sc.2 j < 2147483648) (ih : ∀ (i : Int) (μ : xM), yAll μ → 1 ≤ i → (sc.1 : Int) ≤ i + k → ∃ μ' : xM, AT sc 233 5 [vS, vR 0, vR 139, vI i] [] (SK, μ) = some (some (vI 1), (SK, μ'))) (h : yAll μ) (i1 : 1 ≤ i) (hi : (sc.1 : Int) ≤ i + (k + 1)) (hx : i ≤ (sc.1 : Int) - 7) (hq : sc.2 i.toNat % 32 = 10) : ∃ μ' : xM, AT sc 233 5 [vS, vR 0, vR 139, vI i] [] (SK, μ) = some (some (vI 1), (SK, μ')) := by
  obtain ⟨r, μ1, μ2, e1, e2, e3⟩ := op_touches (sc := sc) h (c := sc.2 (i + 1).toNat) (t := sc.2 (i + 2).toNat)
  obtain ⟨μ', e4⟩ := ih (i + 7) μ2 e3 (by omega) (by omega)
  exact ⟨μ', by rw [B233_5]; simp (disch := omega) only [hq, B233_36, e1, B233_37, e2, B233_38, B233_88, e4, if_true, if_false, xg_in, wr_of, if_pos, if_neg, xcI_some, or_true, true_or]⟩
theorem law_11 {sc : Nat × (Nat → Int)} {k : Nat} {i : Int} {μ : xM} (hL : (sc.1 : Int) ≤ 3585) (hs : ∀ j : Nat, -2147483648 ≤ sc.2 j ∧ sc.2 j < 2147483648) (ih : ∀ (i : Int) (μ : xM), yAll μ → 1 ≤ i → (sc.1 : Int) ≤ i + k → ∃ μ' : xM, AT sc 233 5 [vS, vR 0, vR 139, vI i] [] (SK, μ) = some (some (vI 1), (SK, μ'))) (h : yAll μ) (i1 : 1 ≤ i) (hi : (sc.1 : Int) ≤ i + (k + 1)) (hx : i ≤ (sc.1 : Int) - 7) (hq : sc.2 i.toNat % 32 = 11) : ∃ μ' : xM, AT sc 233 5 [vS, vR 0, vR 139, vI i] [] (SK, μ) = some (some (vI 1), (SK, μ')) := by
  obtain ⟨r, μ1, μ2, e1, e2, e3⟩ := op_queue (sc := sc) h (c := sc.2 (i + 1).toNat)
  obtain ⟨μ', e4⟩ := ih (i + 7) μ2 e3 (by omega) (by omega)
  exact ⟨μ', by rw [B233_5]; simp (disch := omega) only [hq, B233_39, e1, B233_40, e2, B233_41, B233_88, e4, if_true, if_false, xg_in, wr_of, if_pos, if_neg, xcI_some, or_true, true_or]⟩
theorem law_12 {sc : Nat × (Nat → Int)} {k : Nat} {i : Int} {μ : xM} (hL : (sc.1 : Int) ≤ 3585) (hs : ∀ j : Nat, -2147483648 ≤ sc.2 j ∧ sc.2 j < 2147483648) (ih : ∀ (i : Int) (μ : xM), yAll μ → 1 ≤ i → (sc.1 : Int) ≤ i + k → ∃ μ' : xM, AT sc 233 5 [vS, vR 0, vR 139, vI i] [] (SK, μ) = some (some (vI 1), (SK, μ'))) (h : yAll μ) (i1 : 1 ≤ i) (hi : (sc.1 : Int) ≤ i + (k + 1)) (hx : i ≤ (sc.1 : Int) - 7) (hq : sc.2 i.toNat % 32 = 12) : ∃ μ' : xM, AT sc 233 5 [vS, vR 0, vR 139, vI i] [] (SK, μ) = some (some (vI 1), (SK, μ')) := by
  obtain ⟨r, μ1, μ2, e1, e2, e3⟩ := op_leave (sc := sc) h (c := sc.2 (i + 1).toNat)
  obtain ⟨μ', e4⟩ := ih (i + 7) μ2 e3 (by omega) (by omega)
  exact ⟨μ', by rw [B233_5]; simp (disch := omega) only [hq, B233_42, e1, B233_43, e2, B233_44, B233_88, e4, if_true, if_false, xg_in, wr_of, if_pos, if_neg, xcI_some, or_true, true_or]⟩
theorem law_13 {sc : Nat × (Nat → Int)} {k : Nat} {i : Int} {μ : xM} (hL : (sc.1 : Int) ≤ 3585) (hs : ∀ j : Nat, -2147483648 ≤ sc.2 j ∧ sc.2 j < 2147483648) (ih : ∀ (i : Int) (μ : xM), yAll μ → 1 ≤ i → (sc.1 : Int) ≤ i + k → ∃ μ' : xM, AT sc 233 5 [vS, vR 0, vR 139, vI i] [] (SK, μ) = some (some (vI 1), (SK, μ'))) (h : yAll μ) (i1 : 1 ≤ i) (hi : (sc.1 : Int) ≤ i + (k + 1)) (hx : i ≤ (sc.1 : Int) - 7) (hq : sc.2 i.toNat % 32 = 13) : ∃ μ' : xM, AT sc 233 5 [vS, vR 0, vR 139, vI i] [] (SK, μ) = some (some (vI 1), (SK, μ')) := by
  by_cases hz : sc.2 (i + 2).toNat = 0
  · obtain ⟨r, μ1, μ2, e1, e2, e3⟩ := op_hand (sc := sc) h (x := sc.2 (i + 1).toNat) (y := 0) (Or.inl rfl)
    obtain ⟨μ', e4⟩ := ih (i + 7) μ2 e3 (by omega) (by omega)
    exact ⟨μ', by rw [B233_5]; simp (disch := omega) only [hq, hz, B233_45, B233_46, B233_47, e1, B233_48, B233_49, B233_50, e2, B233_51, B233_88, e4, if_true, if_false, xg_in, wr_of, if_pos, if_neg, xcI_some, or_true, true_or]⟩
  · obtain ⟨r, μ1, μ2, e1, e2, e3⟩ := op_hand (sc := sc) h (x := sc.2 (i + 1).toNat) (y := 1) (Or.inr rfl)
    obtain ⟨μ', e4⟩ := ih (i + 7) μ2 e3 (by omega) (by omega)
    exact ⟨μ', by rw [B233_5]; simp (disch := omega) only [hq, B233_45, B233_47, e1, B233_48, B233_50, e2, B233_51, B233_88, e4, if_neg hz, if_true, if_false, xg_in, wr_of, if_pos, if_neg, xcI_some, or_true, true_or]⟩
theorem law_14 {sc : Nat × (Nat → Int)} {k : Nat} {i : Int} {μ : xM} (hL : (sc.1 : Int) ≤ 3585) (hs : ∀ j : Nat, -2147483648 ≤ sc.2 j ∧ sc.2 j < 2147483648) (ih : ∀ (i : Int) (μ : xM), yAll μ → 1 ≤ i → (sc.1 : Int) ≤ i + k → ∃ μ' : xM, AT sc 233 5 [vS, vR 0, vR 139, vI i] [] (SK, μ) = some (some (vI 1), (SK, μ'))) (h : yAll μ) (i1 : 1 ≤ i) (hi : (sc.1 : Int) ≤ i + (k + 1)) (hx : i ≤ (sc.1 : Int) - 7) (hq : sc.2 i.toNat % 32 = 14) : ∃ μ' : xM, AT sc 233 5 [vS, vR 0, vR 139, vI i] [] (SK, μ) = some (some (vI 1), (SK, μ')) := by
  obtain ⟨r, μ1, μ2, e1, e2, e3⟩ := op_size (sc := sc) h (x := sc.2 (i + 1).toNat)
  obtain ⟨μ', e4⟩ := ih (i + 7) μ2 e3 (by omega) (by omega)
  exact ⟨μ', by rw [B233_5]; simp (disch := omega) only [hq, B233_52, e1, B233_53, e2, B233_54, B233_88, e4, if_true, if_false, xg_in, wr_of, if_pos, if_neg, xcI_some, or_true, true_or]⟩
theorem law_15 {sc : Nat × (Nat → Int)} {k : Nat} {i : Int} {μ : xM} (hL : (sc.1 : Int) ≤ 3585) (hs : ∀ j : Nat, -2147483648 ≤ sc.2 j ∧ sc.2 j < 2147483648) (ih : ∀ (i : Int) (μ : xM), yAll μ → 1 ≤ i → (sc.1 : Int) ≤ i + k → ∃ μ' : xM, AT sc 233 5 [vS, vR 0, vR 139, vI i] [] (SK, μ) = some (some (vI 1), (SK, μ'))) (h : yAll μ) (i1 : 1 ≤ i) (hi : (sc.1 : Int) ≤ i + (k + 1)) (hx : i ≤ (sc.1 : Int) - 7) (hq : sc.2 i.toNat % 32 = 15) : ∃ μ' : xM, AT sc 233 5 [vS, vR 0, vR 139, vI i] [] (SK, μ) = some (some (vI 1), (SK, μ')) := by
  obtain ⟨r, μ1, μ2, e1, e2, e3⟩ := op_go (sc := sc) h (x := sc.2 (i + 1).toNat)
  obtain ⟨μ', e4⟩ := ih (i + 7) μ2 e3 (by omega) (by omega)
  exact ⟨μ', by rw [B233_5]; simp (disch := omega) only [hq, B233_55, e1, B233_56, e2, B233_57, B233_88, e4, if_true, if_false, xg_in, wr_of, if_pos, if_neg, xcI_some, or_true, true_or]⟩
theorem law_16 {sc : Nat × (Nat → Int)} {k : Nat} {i : Int} {μ : xM} (hL : (sc.1 : Int) ≤ 3585) (hs : ∀ j : Nat, -2147483648 ≤ sc.2 j ∧ sc.2 j < 2147483648) (ih : ∀ (i : Int) (μ : xM), yAll μ → 1 ≤ i → (sc.1 : Int) ≤ i + k → ∃ μ' : xM, AT sc 233 5 [vS, vR 0, vR 139, vI i] [] (SK, μ) = some (some (vI 1), (SK, μ'))) (h : yAll μ) (i1 : 1 ≤ i) (hi : (sc.1 : Int) ≤ i + (k + 1)) (hx : i ≤ (sc.1 : Int) - 7) (hq : sc.2 i.toNat % 32 = 16) : ∃ μ' : xM, AT sc 233 5 [vS, vR 0, vR 139, vI i] [] (SK, μ) = some (some (vI 1), (SK, μ')) := by
  obtain ⟨r, μ1, μ2, e1, e2, e3⟩ := op_about (sc := sc) h (c := sc.2 (i + 1).toNat) (w := sc.2 (i + 2).toNat)
  obtain ⟨μ', e4⟩ := ih (i + 7) μ2 e3 (by omega) (by omega)
  exact ⟨μ', by rw [B233_5]; simp (disch := omega) only [hq, B233_58, e1, B233_59, e2, B233_60, B233_88, e4, if_true, if_false, xg_in, wr_of, if_pos, if_neg, xcI_some, or_true, true_or]⟩
theorem law_17 {sc : Nat × (Nat → Int)} {k : Nat} {i : Int} {μ : xM} (hL : (sc.1 : Int) ≤ 3585) (hs : ∀ j : Nat, -2147483648 ≤ sc.2 j ∧ sc.2 j < 2147483648) (ih : ∀ (i : Int) (μ : xM), yAll μ → 1 ≤ i → (sc.1 : Int) ≤ i + k → ∃ μ' : xM, AT sc 233 5 [vS, vR 0, vR 139, vI i] [] (SK, μ) = some (some (vI 1), (SK, μ'))) (h : yAll μ) (i1 : 1 ≤ i) (hi : (sc.1 : Int) ≤ i + (k + 1)) (hx : i ≤ (sc.1 : Int) - 7) (hq : sc.2 i.toNat % 32 = 17) : ∃ μ' : xM, AT sc 233 5 [vS, vR 0, vR 139, vI i] [] (SK, μ) = some (some (vI 1), (SK, μ')) := by
  obtain ⟨r, μ1, μ2, e1, e2, e3⟩ := op_inLine (sc := sc) h (k := sc.2 (i + 1).toNat)
  obtain ⟨μ', e4⟩ := ih (i + 7) μ2 e3 (by omega) (by omega)
  exact ⟨μ', by rw [B233_5]; simp (disch := omega) only [hq, B233_61, e1, B233_62, e2, B233_63, B233_88, e4, if_true, if_false, xg_in, wr_of, if_pos, if_neg, xcI_some, or_true, true_or]⟩
theorem law_18 {sc : Nat × (Nat → Int)} {k : Nat} {i : Int} {μ : xM} (hL : (sc.1 : Int) ≤ 3585) (hs : ∀ j : Nat, -2147483648 ≤ sc.2 j ∧ sc.2 j < 2147483648) (ih : ∀ (i : Int) (μ : xM), yAll μ → 1 ≤ i → (sc.1 : Int) ≤ i + k → ∃ μ' : xM, AT sc 233 5 [vS, vR 0, vR 139, vI i] [] (SK, μ) = some (some (vI 1), (SK, μ'))) (h : yAll μ) (i1 : 1 ≤ i) (hi : (sc.1 : Int) ≤ i + (k + 1)) (hx : i ≤ (sc.1 : Int) - 7) (hq : sc.2 i.toNat % 32 = 18) : ∃ μ' : xM, AT sc 233 5 [vS, vR 0, vR 139, vI i] [] (SK, μ) = some (some (vI 1), (SK, μ')) := by
  obtain ⟨r, μ1, μ2, e1, e2, e3⟩ := op_inWork (sc := sc) h (x := sc.2 (i + 1).toNat) (hs _).1 (hs _).2
  obtain ⟨μ', e4⟩ := ih (i + 7) μ2 e3 (by omega) (by omega)
  exact ⟨μ', by rw [B233_5]; simp (disch := omega) only [hq, B233_64, e1, B233_65, e2, B233_66, B233_88, e4, if_true, if_false, xg_in, wr_of, if_pos, if_neg, xcI_some, or_true, true_or]⟩
theorem law_19 {sc : Nat × (Nat → Int)} {k : Nat} {i : Int} {μ : xM} (hL : (sc.1 : Int) ≤ 3585) (hs : ∀ j : Nat, -2147483648 ≤ sc.2 j ∧ sc.2 j < 2147483648) (ih : ∀ (i : Int) (μ : xM), yAll μ → 1 ≤ i → (sc.1 : Int) ≤ i + k → ∃ μ' : xM, AT sc 233 5 [vS, vR 0, vR 139, vI i] [] (SK, μ) = some (some (vI 1), (SK, μ'))) (h : yAll μ) (i1 : 1 ≤ i) (hi : (sc.1 : Int) ≤ i + (k + 1)) (hx : i ≤ (sc.1 : Int) - 7) (hq : sc.2 i.toNat % 32 = 19) : ∃ μ' : xM, AT sc 233 5 [vS, vR 0, vR 139, vI i] [] (SK, μ) = some (some (vI 1), (SK, μ')) := by
  obtain ⟨r, μ1, μ2, e1, e2, e3⟩ := op_at (sc := sc) h (s := sc.2 (i + 1).toNat) (f := sc.2 (i + 2).toNat) (i := sc.2 (i + 3).toNat) (w := sc.2 (i + 4).toNat)
  obtain ⟨μ', e4⟩ := ih (i + 7) μ2 e3 (by omega) (by omega)
  exact ⟨μ', by rw [B233_5]; simp (disch := omega) only [hq, B233_67, e1, B233_68, e2, B233_69, B233_88, e4, if_true, if_false, xg_in, wr_of, if_pos, if_neg, xcI_some, or_true, true_or]⟩
theorem law_20 {sc : Nat × (Nat → Int)} {k : Nat} {i : Int} {μ : xM} (hL : (sc.1 : Int) ≤ 3585) (hs : ∀ j : Nat, -2147483648 ≤ sc.2 j ∧ sc.2 j < 2147483648) (ih : ∀ (i : Int) (μ : xM), yAll μ → 1 ≤ i → (sc.1 : Int) ≤ i + k → ∃ μ' : xM, AT sc 233 5 [vS, vR 0, vR 139, vI i] [] (SK, μ) = some (some (vI 1), (SK, μ'))) (h : yAll μ) (i1 : 1 ≤ i) (hi : (sc.1 : Int) ≤ i + (k + 1)) (hx : i ≤ (sc.1 : Int) - 7) (hq : sc.2 i.toNat % 32 = 20) : ∃ μ' : xM, AT sc 233 5 [vS, vR 0, vR 139, vI i] [] (SK, μ) = some (some (vI 1), (SK, μ')) := by
  obtain ⟨r, μ1, μ2, e1, e2, e3⟩ := op_log (sc := sc) h (i := sc.2 (i + 1).toNat) (w := sc.2 (i + 2).toNat)
  obtain ⟨μ', e4⟩ := ih (i + 7) μ2 e3 (by omega) (by omega)
  exact ⟨μ', by rw [B233_5]; simp (disch := omega) only [hq, B233_70, e1, B233_71, e2, B233_72, B233_88, e4, if_true, if_false, xg_in, wr_of, if_pos, if_neg, xcI_some, or_true, true_or]⟩
theorem law_21 {sc : Nat × (Nat → Int)} {k : Nat} {i : Int} {μ : xM} (hL : (sc.1 : Int) ≤ 3585) (hs : ∀ j : Nat, -2147483648 ≤ sc.2 j ∧ sc.2 j < 2147483648) (ih : ∀ (i : Int) (μ : xM), yAll μ → 1 ≤ i → (sc.1 : Int) ≤ i + k → ∃ μ' : xM, AT sc 233 5 [vS, vR 0, vR 139, vI i] [] (SK, μ) = some (some (vI 1), (SK, μ'))) (h : yAll μ) (i1 : 1 ≤ i) (hi : (sc.1 : Int) ≤ i + (k + 1)) (hx : i ≤ (sc.1 : Int) - 7) (hq : sc.2 i.toNat % 32 = 21) : ∃ μ' : xM, AT sc 233 5 [vS, vR 0, vR 139, vI i] [] (SK, μ) = some (some (vI 1), (SK, μ')) := by
  obtain ⟨r, μ1, μ2, e1, e2, e3⟩ := op_alter (sc := sc) h (r := sc.2 (i + 1).toNat) (w := sc.2 (i + 2).toNat) (x := sc.2 (i + 3).toNat)
  obtain ⟨μ', e4⟩ := ih (i + 7) μ2 e3 (by omega) (by omega)
  exact ⟨μ', by rw [B233_5]; simp (disch := omega) only [hq, B233_73, e1, B233_74, e2, B233_75, B233_88, e4, if_true, if_false, xg_in, wr_of, if_pos, if_neg, xcI_some, or_true, true_or]⟩
theorem law_22 {sc : Nat × (Nat → Int)} {k : Nat} {i : Int} {μ : xM} (hL : (sc.1 : Int) ≤ 3585) (hs : ∀ j : Nat, -2147483648 ≤ sc.2 j ∧ sc.2 j < 2147483648) (ih : ∀ (i : Int) (μ : xM), yAll μ → 1 ≤ i → (sc.1 : Int) ≤ i + k → ∃ μ' : xM, AT sc 233 5 [vS, vR 0, vR 139, vI i] [] (SK, μ) = some (some (vI 1), (SK, μ'))) (h : yAll μ) (i1 : 1 ≤ i) (hi : (sc.1 : Int) ≤ i + (k + 1)) (hx : i ≤ (sc.1 : Int) - 7) (hq : sc.2 i.toNat % 32 = 22) : ∃ μ' : xM, AT sc 233 5 [vS, vR 0, vR 139, vI i] [] (SK, μ) = some (some (vI 1), (SK, μ')) := by
  obtain ⟨r, μ1, μ2, e1, e2, e3⟩ := op_check (sc := sc) h 
  obtain ⟨μ', e4⟩ := ih (i + 7) μ2 e3 (by omega) (by omega)
  exact ⟨μ', by rw [B233_5]; simp (disch := omega) only [hq, B233_76, e1, B233_77, e2, B233_78, B233_88, e4, if_true, if_false, xg_in, wr_of, if_pos, if_neg, xcI_some, or_true, true_or]⟩
theorem law_23 {sc : Nat × (Nat → Int)} {k : Nat} {i : Int} {μ : xM} (hL : (sc.1 : Int) ≤ 3585) (hs : ∀ j : Nat, -2147483648 ≤ sc.2 j ∧ sc.2 j < 2147483648) (ih : ∀ (i : Int) (μ : xM), yAll μ → 1 ≤ i → (sc.1 : Int) ≤ i + k → ∃ μ' : xM, AT sc 233 5 [vS, vR 0, vR 139, vI i] [] (SK, μ) = some (some (vI 1), (SK, μ'))) (h : yAll μ) (i1 : 1 ≤ i) (hi : (sc.1 : Int) ≤ i + (k + 1)) (hx : i ≤ (sc.1 : Int) - 7) (hq : sc.2 i.toNat % 32 = 23) : ∃ μ' : xM, AT sc 233 5 [vS, vR 0, vR 139, vI i] [] (SK, μ) = some (some (vI 1), (SK, μ')) := by
  obtain ⟨r, μ1, μ2, e1, e2, e3⟩ := op_keep (sc := sc) h 
  obtain ⟨μ', e4⟩ := ih (i + 7) μ2 e3 (by omega) (by omega)
  exact ⟨μ', by rw [B233_5]; simp (disch := omega) only [hq, B233_79, e1, B233_80, e2, B233_81, B233_88, e4, if_true, if_false, xg_in, wr_of, if_pos, if_neg, xcI_some, or_true, true_or]⟩
theorem law_24 {sc : Nat × (Nat → Int)} {k : Nat} {i : Int} {μ : xM} (hL : (sc.1 : Int) ≤ 3585) (hs : ∀ j : Nat, -2147483648 ≤ sc.2 j ∧ sc.2 j < 2147483648) (ih : ∀ (i : Int) (μ : xM), yAll μ → 1 ≤ i → (sc.1 : Int) ≤ i + k → ∃ μ' : xM, AT sc 233 5 [vS, vR 0, vR 139, vI i] [] (SK, μ) = some (some (vI 1), (SK, μ'))) (h : yAll μ) (i1 : 1 ≤ i) (hi : (sc.1 : Int) ≤ i + (k + 1)) (hx : i ≤ (sc.1 : Int) - 7) (hq : sc.2 i.toNat % 32 = 24) : ∃ μ' : xM, AT sc 233 5 [vS, vR 0, vR 139, vI i] [] (SK, μ) = some (some (vI 1), (SK, μ')) := by
  obtain ⟨r, μ1, μ2, e1, e2, e3⟩ := op_back (sc := sc) h 
  obtain ⟨μ', e4⟩ := ih (i + 7) μ2 e3 (by omega) (by omega)
  exact ⟨μ', by rw [B233_5]; simp (disch := omega) only [hq, B233_82, e1, B233_83, e2, B233_84, B233_88, e4, if_true, if_false, xg_in, wr_of, if_pos, if_neg, xcI_some, or_true, true_or]⟩
theorem law_25 {sc : Nat × (Nat → Int)} {k : Nat} {i : Int} {μ : xM} (hL : (sc.1 : Int) ≤ 3585) (hs : ∀ j : Nat, -2147483648 ≤ sc.2 j ∧ sc.2 j < 2147483648) (ih : ∀ (i : Int) (μ : xM), yAll μ → 1 ≤ i → (sc.1 : Int) ≤ i + k → ∃ μ' : xM, AT sc 233 5 [vS, vR 0, vR 139, vI i] [] (SK, μ) = some (some (vI 1), (SK, μ'))) (h : yAll μ) (i1 : 1 ≤ i) (hi : (sc.1 : Int) ≤ i + (k + 1)) (hx : i ≤ (sc.1 : Int) - 7) (hq : sc.2 i.toNat % 32 = 25) : ∃ μ' : xM, AT sc 233 5 [vS, vR 0, vR 139, vI i] [] (SK, μ) = some (some (vI 1), (SK, μ')) := by
  obtain ⟨r, μ1, μ2, e1, e2, e3⟩ := op_count (sc := sc) h (w := sc.2 (i + 1).toNat)
  obtain ⟨μ', e4⟩ := ih (i + 7) μ2 e3 (by omega) (by omega)
  exact ⟨μ', by rw [B233_5]; simp (disch := omega) only [hq, B233_85, e1, B233_86, e2, B233_87, B233_88, e4, if_true, if_false, xg_in, wr_of, if_pos, if_neg, xcI_some, or_true, true_or]⟩
theorem law_loop {sc : Nat × (Nat → Int)} (hL : (sc.1 : Int) ≤ 3585) (hs : ∀ j : Nat, -2147483648 ≤ sc.2 j ∧ sc.2 j < 2147483648) : ∀ (k : Nat) (i : Int) (μ : xM), yAll μ → 1 ≤ i → (sc.1 : Int) ≤ i + k → ∃ μ' : xM, AT sc 233 5 [vS, vR 0, vR 139, vI i] [] (SK, μ) = some (some (vI 1), (SK, μ')) := by
  have exit : ∀ (i : Int) (μ : xM), 1 ≤ i → (sc.1 : Int) - 7 < i → ∃ μ' : xM, AT sc 233 5 [vS, vR 0, vR 139, vI i] [] (SK, μ) = some (some (vI 1), (SK, μ')) := fun i μ i1 hx => ⟨μ, by simp (disch := omega) only [B233_5, B233_89, if_true, if_false, xg_in, wr_of, if_pos, if_neg, xcI_some, or_true, true_or]⟩
  intro k
  induction k with
  | zero =>
    intro i μ h i1 hi
    exact exit i μ i1 (by omega)
  | succ k ih =>
    intro i μ h i1 hi
    by_cases hx : (sc.1 : Int) - 7 < i
    · exact exit i μ i1 hx
    by_cases q0 : sc.2 i.toNat % 32 = 0
    · exact law_0 hL hs ih h i1 (by omega) (by omega) q0
    by_cases q1 : sc.2 i.toNat % 32 = 1
    · exact law_1 hL hs ih h i1 (by omega) (by omega) q1
    by_cases q2 : sc.2 i.toNat % 32 = 2
    · exact law_2 hL hs ih h i1 (by omega) (by omega) q2
    by_cases q3 : sc.2 i.toNat % 32 = 3
    · exact law_3 hL hs ih h i1 (by omega) (by omega) q3
    by_cases q4 : sc.2 i.toNat % 32 = 4
    · exact law_4 hL hs ih h i1 (by omega) (by omega) q4
    by_cases q5 : sc.2 i.toNat % 32 = 5
    · exact law_5 hL hs ih h i1 (by omega) (by omega) q5
    by_cases q6 : sc.2 i.toNat % 32 = 6
    · exact law_6 hL hs ih h i1 (by omega) (by omega) q6
    by_cases q7 : sc.2 i.toNat % 32 = 7
    · exact law_7 hL hs ih h i1 (by omega) (by omega) q7
    by_cases q8 : sc.2 i.toNat % 32 = 8
    · exact law_8 hL hs ih h i1 (by omega) (by omega) q8
    by_cases q9 : sc.2 i.toNat % 32 = 9
    · exact law_9 hL hs ih h i1 (by omega) (by omega) q9
    by_cases q10 : sc.2 i.toNat % 32 = 10
    · exact law_10 hL hs ih h i1 (by omega) (by omega) q10
    by_cases q11 : sc.2 i.toNat % 32 = 11
    · exact law_11 hL hs ih h i1 (by omega) (by omega) q11
    by_cases q12 : sc.2 i.toNat % 32 = 12
    · exact law_12 hL hs ih h i1 (by omega) (by omega) q12
    by_cases q13 : sc.2 i.toNat % 32 = 13
    · exact law_13 hL hs ih h i1 (by omega) (by omega) q13
    by_cases q14 : sc.2 i.toNat % 32 = 14
    · exact law_14 hL hs ih h i1 (by omega) (by omega) q14
    by_cases q15 : sc.2 i.toNat % 32 = 15
    · exact law_15 hL hs ih h i1 (by omega) (by omega) q15
    by_cases q16 : sc.2 i.toNat % 32 = 16
    · exact law_16 hL hs ih h i1 (by omega) (by omega) q16
    by_cases q17 : sc.2 i.toNat % 32 = 17
    · exact law_17 hL hs ih h i1 (by omega) (by omega) q17
    by_cases q18 : sc.2 i.toNat % 32 = 18
    · exact law_18 hL hs ih h i1 (by omega) (by omega) q18
    by_cases q19 : sc.2 i.toNat % 32 = 19
    · exact law_19 hL hs ih h i1 (by omega) (by omega) q19
    by_cases q20 : sc.2 i.toNat % 32 = 20
    · exact law_20 hL hs ih h i1 (by omega) (by omega) q20
    by_cases q21 : sc.2 i.toNat % 32 = 21
    · exact law_21 hL hs ih h i1 (by omega) (by omega) q21
    by_cases q22 : sc.2 i.toNat % 32 = 22
    · exact law_22 hL hs ih h i1 (by omega) (by omega) q22
    by_cases q23 : sc.2 i.toNat % 32 = 23
    · exact law_23 hL hs ih h i1 (by omega) (by omega) q23
    by_cases q24 : sc.2 i.toNat % 32 = 24
    · exact law_24 hL hs ih h i1 (by omega) (by omega) q24
    by_cases q25 : sc.2 i.toNat % 32 = 25
    · exact law_25 hL hs ih h i1 (by omega) (by omega) q25
    obtain ⟨μ', e4⟩ := ih (i + 7) μ h (by omega) (by omega)
    exact ⟨μ', by rw [B233_5]; simp (disch := omega) only [B233_88, e4, if_true, if_false, xg_in, wr_of, if_pos, if_neg, xcI_some, or_true, true_or]⟩
theorem zr2_z {μ : xM} {q k i : Nat} (h : μ k i = 0) : zr2 μ q k i = 0 := by
  unfold zr2
  by_cases e : k = q
  · rw [if_pos e]
  · rw [if_neg e]; exact h
theorem zr2_ne {μ : xM} {q k i : Nat} (h : k ≠ q) : zr2 μ q k i = μ k i := if_neg h
theorem up2_z {μ : xM} {a b k i : Nat} (h : μ k i = 0) : up2 μ a b 0 k i = 0 := by
  by_cases e : k = a ∧ i = b
  · rw [e.1, e.2]; exact up2_eq
  · rw [up2_ne (by omega)]; exact h
theorem up2_o {μ : xM} {a b k i : Nat} {v : Int} (ho : k ≠ a ∨ i ≠ b) (h : μ k i = 0) : up2 μ a b v k i = 0 := by rw [up2_ne ho]; exact h
def muA (μ : xM) (s : Int) : xM := up2 (up2 (up2 (up2 (up2 (up2 (zr2 (zr2 (zr2 (zr2 (zr2 (zr2 (zr2 (zr2 (zr2 (zr2 (zr2 (up2 (up2 (zr2 (zr2 (zr2 (zr2 (zr2 (up2 (up2 (zr2 (zr2 (zr2 (zr2 (zr2 (zr2 (zr2 (zr2 (zr2 (zr2 (zr2 (zr2 (zr2 (up2 (zr2 (zr2 (zr2 (up2 (zr2 (zr2 (zr2 (zr2 (zr2 (zr2 (zr2 (zr2 (zr2 (zr2 (zr2 (zr2 (zr2 (zr2 (zr2 (zr2 (zr2 (zr2 (zr2 (zr2 (zr2 (zr2 (zr2 (zr2 (zr2 (zr2 (zr2 (zr2 (zr2 (zr2 (zr2 (zr2 (up2 (up2 (zr2 (zr2 (zr2 (zr2 (zr2 (up2 (up2 (up2 (up2 (up2 (zr2 (zr2 (zr2 (zr2 (zr2 (zr2 (zr2 (zr2 (zr2 (zr2 (zr2 (up2 (up2 (zr2 (zr2 (zr2 (zr2 (zr2 (up2 (up2 (zr2 (zr2 (zr2 (zr2 (zr2 (zr2 (zr2 (zr2 (zr2 (zr2 (zr2 (zr2 (zr2 (up2 (zr2 (zr2 (zr2 (up2 (zr2 (zr2 (zr2 (zr2 (zr2 (zr2 (zr2 (zr2 (zr2 (zr2 (zr2 (zr2 (zr2 (zr2 (zr2 (zr2 (zr2 (zr2 (zr2 (zr2 (zr2 (zr2 (zr2 (zr2 (zr2 (zr2 (zr2 (zr2 (zr2 (zr2 (zr2 (zr2 (up2 (up2 (zr2 (zr2 (zr2 (zr2 (zr2 μ 1) 2) 3) 4) 5) 2 3 0) 2 4 0) 6) 7) 8) 9) 10) 11) 12) 13) 14) 15) 16) 17) 18) 19) 20) 21) 22) 23) 24) 25) 26) 27) 28) 29) 30) 31) 32) 33) 34) 35) 36) 37) 6 9 0) 38) 39) 40) 38 1 0) 41) 42) 43) 44) 45) 46) 47) 48) 49) 50) 51) 52) 53) 41 6 0) 41 7 0) 54) 55) 56) 57) 58) 54 2 0) 1 6 4) 59) 60) 61) 62) 63) 64) 65) 66) 67) 68) 69) 59 5 0) 59 6 1) 59 7 1) 59 8 0) 59 9 s) 70) 71) 72) 73) 74) 71 3 0) 71 4 0) 75) 76) 77) 78) 79) 80) 81) 82) 83) 84) 85) 86) 87) 88) 89) 90) 91) 92) 93) 94) 95) 96) 97) 98) 99) 100) 101) 102) 103) 104) 105) 106) 75 9 0) 107) 108) 109) 107 1 0) 110) 111) 112) 113) 114) 115) 116) 117) 118) 119) 120) 121) 122) 110 6 0) 110 7 0) 123) 124) 125) 126) 127) 123 2 0) 70 6 4) 128) 129) 130) 131) 132) 133) 134) 135) 136) 137) 138) 128 5 0) 128 6 1) 128 7 1) 128 8 0) 128 9 s) 0 2 0
def muB (μ : xM) (s : Int) : xM := up2 (up2 (up2 (up2 (zr2 (zr2 (zr2 (zr2 μ 140) 141) 142) 143) 140 2 s) 140 3 1) 140 4 1) 140 5 4
def muI (s : Int) : xM := muB (zr2 (muA (zr2 (fun _ _ => 0) 0) s) 139) s
theorem muI_z {s : Int} {k i : Nat} (h : k ≠ 1 ∧ k ≠ 70 ∧ (k ≠ 59 ∨ (i ≠ 6 ∧ i ≠ 7 ∧ i ≠ 9)) ∧ (k ≠ 128 ∨ (i ≠ 6 ∧ i ≠ 7 ∧ i ≠ 9)) ∧ (k ≠ 140 ∨ i < 2 ∨ 5 < i)) : muI s k i = 0 := by
  unfold muI muA muB
  repeat' first | apply zr2_z | apply up2_z | (refine up2_o (by omega) ?_)
  rfl
theorem muI_s {s : Int} : muI s 1 6 = 4 ∧ muI s 59 6 = 1 ∧ muI s 59 7 = 1 ∧ muI s 59 9 = s ∧ muI s 140 2 = s ∧ muI s 140 3 = 1 ∧ muI s 140 4 = 1 ∧ muI s 140 5 = 4 := by
  unfold muI muA muB
  refine ⟨?_, ?_, ?_, ?_, ?_, ?_, ?_, ?_⟩ <;> simp (disch := omega) only [up2_ne, up2_eq, zr2_ne]
theorem muI_all {s : Int} : yAll (muI s) := by
  obtain ⟨s1, s2, s3, s4, s5, s6, s7, s8⟩ := @muI_s s
  have m0 : ∀ i : Nat, (i < 2 ∨ 5 < i) → muI s 140 i = 0 := fun i hi => muI_z (by omega)
  have c0 : ∀ k i : Nat, k ≠ 1 → k ≠ 70 → k ≠ 59 → k ≠ 128 → k ≠ 140 → muI s k i = 0 := fun k i h1 h2 h3 h4 h5 => muI_z (by omega)
  have c59 : ∀ i : Nat, i ≠ 6 → i ≠ 7 → i ≠ 9 → muI s 59 i = 0 := fun i h1 h2 h3 => muI_z (by omega)
  have e6 := m0 6 (by omega)
  have e7 := m0 7 (by omega)
  have e8 := m0 8 (by omega)
  have e9 := m0 9 (by omega)
  have e10 := m0 10 (by omega)
  have e11 := m0 11 (by omega)
  have e0 := m0 0 (by omega)
  have e1 := m0 1 (by omega)
  have f5 := c59 5 (by omega) (by omega) (by omega)
  have f8 := c59 8 (by omega) (by omega) (by omega)
  have g23 := c0 2 3 (by omega) (by omega) (by omega) (by omega) (by omega)
  have g24 := c0 2 4 (by omega) (by omega) (by omega) (by omega) (by omega)
  have g69 := c0 6 9 (by omega) (by omega) (by omega) (by omega) (by omega)
  have g38 := c0 38 1 (by omega) (by omega) (by omega) (by omega) (by omega)
  have g416 := c0 41 6 (by omega) (by omega) (by omega) (by omega) (by omega)
  have g417 := c0 41 7 (by omega) (by omega) (by omega) (by omega) (by omega)
  have g54 := c0 54 2 (by omega) (by omega) (by omega) (by omega) (by omega)
  have g02 := c0 0 2 (by omega) (by omega) (by omega) (by omega) (by omega)
  have g139 := c0 139 2 (by omega) (by omega) (by omega) (by omega) (by omega)
  have b6 : 0 ≤ muI s 140 6 ∧ muI s 140 6 ≤ 24 ∧ muI s 59 5 = muI s 140 6 := by omega
  have hT : yT (muI s) (muI s 140) := ⟨b6, by omega, by omega, fun t t0 t1 => by omega⟩
  have hL : yL (muI s) (muI s 140) := by unfold yL; omega
  have hG : yG (muI s) (muI s 140) := ⟨by omega, by omega, by omega, fun i i0 i1 => by omega⟩
  have hA : yA (muI s) (muI s 140) := ⟨by omega, by omega, by omega, fun c c0 c1 => by omega⟩
  have hE : yE (muI s) (muI s 140) := fun c c0 c1 => by omega
  have hB : yB (muI s) (muI s 140) := ⟨by omega, by omega, fun st f s0 s1 f0 f1 => by
    have z := m0 (12 + 8 * st + f).toNat (by omega)
    have y := c0 4 (st * 8 + f).toNat (by omega) (by omega) (by omega) (by omega) (by omega)
    exact ⟨by omega, by omega, by omega, fun i i0 i1 => by omega⟩⟩
  have hW : yW (muI s) (muI s 140) := ⟨by omega, by omega, by omega, fun k k0 k1 => by omega, fun j k j0 j1 k0 k1 e => by omega, fun c c0 c1 e => by omega⟩
  have hP : yP (muI s) (muI s 140) := yP0 e9 g416 g417
  have hO : yO (muI s 140) := ⟨fun _ x => x, fun st f s0 s1 f0 f1 => by
    rw [m0 (12 + 8 * st + f).toNat (by omega)]
    exact List.Pairwise.nil, fun c k c0 c1 => by omega⟩
  have hM : yM (muI s 140) := by
    have w : sumN (fun f => muI s 140 (12 + f)) 8 = 0 := by
      simp only [sumN]
      have z := fun f : Nat => m0 (12 + f) (by omega)
      simp only [z]
      rfl
    refine ⟨fun _ => by rw [w]; exact e1, ?_⟩
    rw [e1, e7]
    show (0 : Int) ≤ 192 + 4 * sumN (fun c => muI s 140 (41904 + c)) 0
    simp only [sumN]
    omega
  have hN : yN (muI s 140) := ⟨fun st s0 s1 => by omega, fun c c0 c1 => by omega⟩
  exact ⟨⟨hT, hL, hG, hA, hE, hB, hW, hP, hO, hM, hN⟩, Or.inl ⟨g02, g139⟩⟩
theorem cell0 {sc : Nat × (Nat → Int)} : ∃ s : Int, ∀ (K : List xK) (μ : xM), EV sc 232 [vS, vI 0] (K, μ) = some (some (vI s), (K, μ)) := by
  by_cases h : (0 : Int) < (sc.1 : Int)
  · refine ⟨sc.2 (0 : Int).toNat, fun K μ => ?_⟩
    show AT sc 232 0 [vS, vI 0] [] (K, μ) = _
    rw [B232_0, if_pos h, xg_in (Int.le_refl _) h, B232_2]
  · refine ⟨0, fun K μ => ?_⟩
    show AT sc 232 0 [vS, vI 0] [] (K, μ) = _
    rw [B232_0, if_neg h, B232_1, B232_2]
theorem law_all {sc : Nat × (Nat → Int)} (hL : (sc.1 : Int) ≤ 3585) (hs : ∀ j : Nat, -2147483648 ≤ sc.2 j ∧ sc.2 j < 2147483648) : ∃ μ' : xM, AT sc 233 0 [vS, vN, vN, vN] [] ([], fun _ _ => 0) = some (some (vI 1), (SK, μ')) := by
  obtain ⟨s, h⟩ := @cell0 sc
  obtain ⟨μ', e⟩ := law_loop hL hs 3585 1 (muI s) muI_all (by omega) (by omega)
  refine ⟨μ', ?_⟩
  rw [w0, h, xcI_some, w1, c1, xcV_some, w2, h, xcI_some, w3, c76, xcV_some, w4]
  exact e
theorem SK_cap : SK.length ≤ 600000 ∧ xsz SK ≤ 7302250 := by decide +kernel
theorem whole_start {p : Program} {e : Env} {s : State} {m : MethodId} {below : List Frame} {meth : Method} {c : Code} (l : Launch) (hflags : l.flags = flags0) {b L : Nat} {xs : Nat → Int32} (hL : L ≤ 3585) (C0 : lw_At p s m meth c b L xs) : W p l e room_1 s m #[Value.ref b] below meth c s.heap [] 0 0 (lw_Z below #[Value.ref b] s) (entryFrame m ([Value.ref b] : List Value).toArray 4) := by
  obtain ⟨μ', hx⟩ := @law_all (L, fun i => (xs i).toInt) (show ((L : Nat) : Int) ≤ 3585 by omega) (fun j => by
    have h1 := Int32.le_toInt (xs j)
    have h2 := Int32.toInt_lt (xs j)
    exact ⟨by show -2147483648 ≤ (xs j).toInt; omega, by show (xs j).toInt < 2147483648; omega⟩)
  exact whole_of_xat l hL C0 (σ' := (SK, μ')) hx SK_cap
set_option maxHeartbeats 4000000 in
theorem lw_walk (l : Launch) (hflags : l.flags = flags0) (b : Addr) (xs : List Int32) : MetFree l x (headSpec (Jvm.Cond.code x code maxLocals ret :: tables_1) room_1) (lw_P b xs) (fun _ _ _ _ _ => True) lw_Q := by
  refine MetFree.of_bodyS (code := code) (maxLocals := maxLocals) (ret := ret) (by decide) ?_ ?_
  · intro args s m h hn
    obtain ⟨meth, c, h1, h2, h3, h4, h5, h6, -, -⟩ := Cond.code_spec hn (atoms_spec (ws := Jvm.Cond.code x code maxLocals ret :: tables_1) h _ List.mem_cons_self)
    exact ⟨meth, c, h1, h2, h3, h4, h5, h6⟩
  · intro p e s m args below meth c s₁ B hml0 hP _
    obtain ⟨rfl, hx, hbd, hgv⟩ := hP
    obtain ⟨scr, harrAt, hlist, hof, hsmall⟩ := hx
    obtain ⟨hcb, hkn, -, -⟩ := State.arrayAt?_spec harrAt
    have hown : s.vm.findClass R_law = some m.cls := findClass_of_methodNamed B.named
    have hts0 : ∀ c ∈ (Jvm.Cond.code x code maxLocals ret :: tables_1), c.before #[Value.ref b] s = true := atoms_spec (ws := Jvm.Cond.code x code maxLocals ret :: tables_1) B.pre
    have hts : ∀ w ∈ lw_tbl, w.before #[Value.ref b] s = true := k2_hts_sels lw_privs (fun w hw => hts0 w (List.mem_cons_of_mem _ hw)) lw_privs_ok
    have hml : c.maxLocals = 4 := B.maxLocals_eq (hts0 _ List.mem_cons_self)
    have X₀ : Stand p l e room_1 s m #[Value.ref b] below meth c s₁ [] 0 0 := Stand.of_body B
    have hh0 : s₁.heap = s.heap := by rw [B.state]; rfl
    have hsz : scr.slots.size = xs.length := by rw [← Array.length_toList, hlist, List.length_map]
    have hval : ∀ j : Nat, j < xs.length → scr.slots[j]? = some (.int (xs.getD j 0)) := fun j hj => by
      rw [← Array.getElem?_toList, hlist]
      simp [hj]
    have hbl : b < s.heap.size := (Array.getElem?_eq_some_iff.mp hcb).1
    have hX : va_X b xs.length (fun j => xs.getD j 0) s s.heap := ⟨scr, hcb, hof, hkn, hsz, hval⟩
    have K : W p l e room_1 s m #[Value.ref b] below meth c s₁.heap [] 0 0 (lw_Z below #[Value.ref b] s) (entryFrame m ([Value.ref b] : List Value).toArray 4) := by
      rw [hh0]
      exact whole_start l hflags hbd ⟨B.exec, B.bytes, B.returns, hml, hown, hts, hX, hbl, B.notSynchronized, hgv⟩
    obtain ⟨t, a1, o, b1, b2, b3⟩ := K s₁ rfl X₀
    exact ⟨t, o, a1, b1, b2, b3⟩
theorem lw_pre_spec {args : Array Value} {s : State} (h : (Jvm.Cond.and given_1 narrow_1).before args s = true) (hr : rest_1_c.before args s = true) : ∃ (b : Addr) (xs : List Int32), lw_P b xs args s := by
  have hs := flat_of_before _ h
  have hq := flat_of_before _ hr
  have hc : (Cond.count 1).before args s = true := hs _ (by decide +kernel)
  have harr : (Cond.arrayOf (.arg 0) .int).before args s = true := hs _ (by decide +kernel)
  have hle : (Cond.le (.length (.arg 0)) (.int 3585)).before args s = true := hs _ (by decide +kernel)
  have hlen : (Cond.isInt (.length (.arg 0))).before args s = true := hq _ (by decide +kernel)
  have hall : (Cond.all (.arg 0) (.isInt (.elem (.arg 0) (.index 0)))).before args s = true := hq _ (by decide +kernel)
  obtain ⟨b, xs, hb, hx⟩ := State.ints_of_pre rfl harr hlen hall
  have hsm : xs.length < 2 ^ 31 := hx.choose_spec.2.2.2
  have hev : (Term.length (.arg 0)).eval args s none [] s = some (.int xs.length.toInt32) := hx.length_eval hb
  have hv := Cond.le_ints hev (show (Term.int 3585).eval args s none [] s = some (.int 3585) from rfl)
  have hd : xs.length.toInt32 ≤ 3585 := by
    simpa [Cond.before, Cond.holds, hv] using hle
  have hN : xs.length ≤ 3585 := (Int32.ofNat_le_ofNat hsm (by decide)).mp (show Int32.ofNat xs.length ≤ Int32.ofNat 3585 from hd)
  exact ⟨b, xs, Cond.one_arg hc (show args[0]? = some (.ref b) from hb), hx, hN, h⟩
theorem lw_comes (l : Launch) (hflags : l.flags = flags0) : Comes l x (Jvm.Cond.code x code maxLocals ret :: tables_1) room_1 (fun tb e args s => Calls_1 tb e args s ∧ rest_1 tb e args s ∧ Pre_1 tb e args s)
    (fun _ _ args s o t => lw_Q args s o t) := by
  intro p e ha hc hk s m args below hf hfit hheap happ hpre
  obtain ⟨b, xs, hP⟩ := lw_pre_spec hpre.2.2 hpre.2.1
  obtain ⟨k, o, h1, h2, h3, hQ⟩ := lw_walk l hflags b xs p e ha hc hk s m args below hf ((Spec.applies_iff_loose hf).mp happ).1 hP trivial
  exact ⟨k, o, h1, h2, h3, hQ⟩
theorem lw_frame {s t : State} {o : Outcome} {args : Array Value} (h : Framed s o t [] 600000 7302250) :
    Framed s o t (fieldLocs frame_1_writes args s ++ arrayLocs frame_1_arrays args s ++ staticLocs frame_1_statics s) 600000 7302250 := h
theorem lw_limb (L : Cond) (hL : ∀ (args : Array Value) (s t : State), L.after args s (.returned (some (.int 1))) t = true) :
    ArmFor flags0 classFile x code maxLocals ret World_1 tables_1 room_1 Calls_1 rest_1 Pre_1
      (fun tb e a s o t => postC L tb e a s o t ∧ Framed s o t (fieldLocs frame_1_writes a s ++ arrayLocs frame_1_arrays a s ++ staticLocs frame_1_statics s) 600000 7302250) := by
  intro l hflags _ _ p e ha hc hk s m args below hf hfit hheap happ hpre
  obtain ⟨k, o, h1, h2, h3, rfl, hF⟩ := lw_comes l hflags p e ha hc hk s m args below hf hfit hheap happ hpre
  exact ⟨k, _, h1, h2, h3, hL args s _, lw_frame hF⟩
theorem i_vc : Claimed_1_1 ∧ Claimed_1_2 := ⟨lw_limb limb_1_1 (fun args s t => by simp [limb_1_1, Cond.after, Cond.holds, Cond.value]), lw_limb limb_1_2 (fun args s t => Cond.after_iff.mpr (by
  first | (rw [show limb_1_2 = Cond.eq .result (.int 1) from rfl, Cond.eq_ints (x := 1) (y := 1) rfl rfl]; simp; done) | (simp [limb_1_2, Cond.value, Term.eval]; done)))⟩

/-! calls, one by one: tests; reading -/
def good (k a b c : Int) : Prop := 0 ≤ k ∧ k ≤ 4 ∧ 0 ≤ a ∧ a ≤ 31 ∧ (k ≠ 1 → a ≤ 7) ∧ (k = 0 → 1 ≤ b ∧ b ≤ 1000 ∧ 0 ≤ c ∧ c < b) ∧ (k = 1 → 0 ≤ b ∧ b ≤ 9) ∧ (k = 3 → 0 ≤ b ∧ b ≤ 24 ∧ 0 ≤ c ∧ c ≤ 24)
section
variable {sc : Nat × (Nat → Int)} {μ : xM}
theorem told_t {k a b c : Int} (h : good k a b c) : EV sc 163 [vI k, vI a, vI b, vI c] (SK, μ) = some (some (vI 1), (SK, μ)) := by
  unfold good at h
  rcases (show k = 0 ∨ k = 1 ∨ k = 2 ∨ k = 3 ∨ k = 4 by omega) with g | g | g | g | g
  · subst g
    have g : 0 ≤ a ∧ a ≤ 7 ∧ 1 ≤ b ∧ b ≤ 1000 ∧ 0 ≤ c ∧ c < b := by omega
    clear h
    simp (disch := omega) only [V163, B163_0, B163_1, B163_2, B163_3, B163_4, B163_5, B163_6, B163_7, B163_8, B163_9, B163_10, B163_11, B163_12, B163_13, B163_14, B163_15, B163_16, B163_17, B163_18, B163_19, isIn_t, isIn_f, xcI_some, xcV_some, if_pos, if_neg, xg_in, wr_of, if_true, if_false, or_true, true_or]
  · subst g
    have g : 0 ≤ a ∧ a ≤ 31 ∧ 0 ≤ b ∧ b ≤ 9 := by omega
    clear h
    simp (disch := omega) only [V163, B163_0, B163_1, B163_2, B163_3, B163_4, B163_5, B163_6, B163_7, B163_8, B163_9, B163_10, B163_11, B163_12, B163_13, B163_14, B163_15, B163_16, B163_17, B163_18, B163_19, isIn_t, isIn_f, xcI_some, xcV_some, if_pos, if_neg, xg_in, wr_of, if_true, if_false, or_true, true_or]
  · subst g
    have g : 0 ≤ a ∧ a ≤ 7 := by omega
    clear h
    simp (disch := omega) only [V163, B163_0, B163_1, B163_2, B163_3, B163_4, B163_5, B163_6, B163_7, B163_8, B163_9, B163_10, B163_11, B163_12, B163_13, B163_14, B163_15, B163_16, B163_17, B163_18, B163_19, isIn_t, isIn_f, xcI_some, xcV_some, if_pos, if_neg, xg_in, wr_of, if_true, if_false, or_true, true_or]
  · subst g
    have g : 0 ≤ a ∧ a ≤ 7 ∧ 0 ≤ b ∧ b ≤ 24 ∧ 0 ≤ c ∧ c ≤ 24 := by omega
    clear h
    simp (disch := omega) only [V163, B163_0, B163_1, B163_2, B163_3, B163_4, B163_5, B163_6, B163_7, B163_8, B163_9, B163_10, B163_11, B163_12, B163_13, B163_14, B163_15, B163_16, B163_17, B163_18, B163_19, isIn_t, isIn_f, xcI_some, xcV_some, if_pos, if_neg, xg_in, wr_of, if_true, if_false, or_true, true_or]
  · subst g
    have g : 0 ≤ a ∧ a ≤ 7 := by omega
    clear h
    simp (disch := omega) only [V163, B163_0, B163_1, B163_2, B163_3, B163_4, B163_5, B163_6, B163_7, B163_8, B163_9, B163_10, B163_11, B163_12, B163_13, B163_14, B163_15, B163_16, B163_17, B163_18, B163_19, isIn_t, isIn_f, xcI_some, xcV_some, if_pos, if_neg, xg_in, wr_of, if_true, if_false, or_true, true_or]
theorem told_f {k a b c : Int} (h : ¬ good k a b c) : EV sc 163 [vI k, vI a, vI b, vI c] (SK, μ) = some (some (vI 0), (SK, μ)) := by
  unfold good at h
  rcases (show k = 0 ∨ k = 1 ∨ k = 2 ∨ k = 3 ∨ k = 4 ∨ (k < 0 ∨ 4 < k) by omega) with g | g | g | g | g | g
  · subst g
    rcases (show (a < 0) ∨ (7 < a) ∨ (0 ≤ a ∧ a ≤ 7 ∧ b < 1) ∨ (0 ≤ a ∧ a ≤ 7 ∧ 1 ≤ b ∧ 1000 < b) ∨ (0 ≤ a ∧ a ≤ 7 ∧ 1 ≤ b ∧ b ≤ 1000 ∧ c < 0) ∨ (0 ≤ a ∧ a ≤ 7 ∧ 1 ≤ b ∧ b ≤ 1000 ∧ b ≤ c) by omega) with g | g | g | g | g | g
    · clear h
      simp (disch := omega) only [V163, B163_0, B163_1, B163_2, B163_3, B163_4, B163_5, B163_6, B163_7, B163_8, B163_9, B163_10, B163_11, B163_12, B163_13, B163_14, B163_15, B163_16, B163_17, B163_18, B163_19, isIn_t, isIn_f, xcI_some, xcV_some, if_pos, if_neg, xg_in, wr_of, if_true, if_false, or_true, true_or]
    · clear h
      simp (disch := omega) only [V163, B163_0, B163_1, B163_2, B163_3, B163_4, B163_5, B163_6, B163_7, B163_8, B163_9, B163_10, B163_11, B163_12, B163_13, B163_14, B163_15, B163_16, B163_17, B163_18, B163_19, isIn_t, isIn_f, xcI_some, xcV_some, if_pos, if_neg, xg_in, wr_of, if_true, if_false, or_true, true_or]
    · clear h
      simp (disch := omega) only [V163, B163_0, B163_1, B163_2, B163_3, B163_4, B163_5, B163_6, B163_7, B163_8, B163_9, B163_10, B163_11, B163_12, B163_13, B163_14, B163_15, B163_16, B163_17, B163_18, B163_19, isIn_t, isIn_f, xcI_some, xcV_some, if_pos, if_neg, xg_in, wr_of, if_true, if_false, or_true, true_or]
    · clear h
      simp (disch := omega) only [V163, B163_0, B163_1, B163_2, B163_3, B163_4, B163_5, B163_6, B163_7, B163_8, B163_9, B163_10, B163_11, B163_12, B163_13, B163_14, B163_15, B163_16, B163_17, B163_18, B163_19, isIn_t, isIn_f, xcI_some, xcV_some, if_pos, if_neg, xg_in, wr_of, if_true, if_false, or_true, true_or]
    · clear h
      simp (disch := omega) only [V163, B163_0, B163_1, B163_2, B163_3, B163_4, B163_5, B163_6, B163_7, B163_8, B163_9, B163_10, B163_11, B163_12, B163_13, B163_14, B163_15, B163_16, B163_17, B163_18, B163_19, isIn_t, isIn_f, xcI_some, xcV_some, if_pos, if_neg, xg_in, wr_of, if_true, if_false, or_true, true_or]
    · clear h
      simp (disch := omega) only [V163, B163_0, B163_1, B163_2, B163_3, B163_4, B163_5, B163_6, B163_7, B163_8, B163_9, B163_10, B163_11, B163_12, B163_13, B163_14, B163_15, B163_16, B163_17, B163_18, B163_19, isIn_t, isIn_f, xcI_some, xcV_some, if_pos, if_neg, xg_in, wr_of, if_true, if_false, or_true, true_or]
  · subst g
    rcases (show (a < 0) ∨ (31 < a) ∨ (0 ≤ a ∧ a ≤ 31 ∧ b < 0) ∨ (0 ≤ a ∧ a ≤ 31 ∧ 9 < b) by omega) with g | g | g | g
    · clear h
      simp (disch := omega) only [V163, B163_0, B163_1, B163_2, B163_3, B163_4, B163_5, B163_6, B163_7, B163_8, B163_9, B163_10, B163_11, B163_12, B163_13, B163_14, B163_15, B163_16, B163_17, B163_18, B163_19, isIn_t, isIn_f, xcI_some, xcV_some, if_pos, if_neg, xg_in, wr_of, if_true, if_false, or_true, true_or]
    · clear h
      simp (disch := omega) only [V163, B163_0, B163_1, B163_2, B163_3, B163_4, B163_5, B163_6, B163_7, B163_8, B163_9, B163_10, B163_11, B163_12, B163_13, B163_14, B163_15, B163_16, B163_17, B163_18, B163_19, isIn_t, isIn_f, xcI_some, xcV_some, if_pos, if_neg, xg_in, wr_of, if_true, if_false, or_true, true_or]
    · clear h
      simp (disch := omega) only [V163, B163_0, B163_1, B163_2, B163_3, B163_4, B163_5, B163_6, B163_7, B163_8, B163_9, B163_10, B163_11, B163_12, B163_13, B163_14, B163_15, B163_16, B163_17, B163_18, B163_19, isIn_t, isIn_f, xcI_some, xcV_some, if_pos, if_neg, xg_in, wr_of, if_true, if_false, or_true, true_or]
    · clear h
      simp (disch := omega) only [V163, B163_0, B163_1, B163_2, B163_3, B163_4, B163_5, B163_6, B163_7, B163_8, B163_9, B163_10, B163_11, B163_12, B163_13, B163_14, B163_15, B163_16, B163_17, B163_18, B163_19, isIn_t, isIn_f, xcI_some, xcV_some, if_pos, if_neg, xg_in, wr_of, if_true, if_false, or_true, true_or]
  · subst g
    rcases (show (a < 0) ∨ (7 < a) by omega) with g | g
    · clear h
      simp (disch := omega) only [V163, B163_0, B163_1, B163_2, B163_3, B163_4, B163_5, B163_6, B163_7, B163_8, B163_9, B163_10, B163_11, B163_12, B163_13, B163_14, B163_15, B163_16, B163_17, B163_18, B163_19, isIn_t, isIn_f, xcI_some, xcV_some, if_pos, if_neg, xg_in, wr_of, if_true, if_false, or_true, true_or]
    · clear h
      simp (disch := omega) only [V163, B163_0, B163_1, B163_2, B163_3, B163_4, B163_5, B163_6, B163_7, B163_8, B163_9, B163_10, B163_11, B163_12, B163_13, B163_14, B163_15, B163_16, B163_17, B163_18, B163_19, isIn_t, isIn_f, xcI_some, xcV_some, if_pos, if_neg, xg_in, wr_of, if_true, if_false, or_true, true_or]
  · subst g
    rcases (show (a < 0) ∨ (7 < a) ∨ (0 ≤ a ∧ a ≤ 7 ∧ b < 0) ∨ (0 ≤ a ∧ a ≤ 7 ∧ 24 < b) ∨ (0 ≤ a ∧ a ≤ 7 ∧ 0 ≤ b ∧ b ≤ 24 ∧ c < 0) ∨ (0 ≤ a ∧ a ≤ 7 ∧ 0 ≤ b ∧ b ≤ 24 ∧ 24 < c) by omega) with g | g | g | g | g | g
    · clear h
      simp (disch := omega) only [V163, B163_0, B163_1, B163_2, B163_3, B163_4, B163_5, B163_6, B163_7, B163_8, B163_9, B163_10, B163_11, B163_12, B163_13, B163_14, B163_15, B163_16, B163_17, B163_18, B163_19, isIn_t, isIn_f, xcI_some, xcV_some, if_pos, if_neg, xg_in, wr_of, if_true, if_false, or_true, true_or]
    · clear h
      simp (disch := omega) only [V163, B163_0, B163_1, B163_2, B163_3, B163_4, B163_5, B163_6, B163_7, B163_8, B163_9, B163_10, B163_11, B163_12, B163_13, B163_14, B163_15, B163_16, B163_17, B163_18, B163_19, isIn_t, isIn_f, xcI_some, xcV_some, if_pos, if_neg, xg_in, wr_of, if_true, if_false, or_true, true_or]
    · clear h
      simp (disch := omega) only [V163, B163_0, B163_1, B163_2, B163_3, B163_4, B163_5, B163_6, B163_7, B163_8, B163_9, B163_10, B163_11, B163_12, B163_13, B163_14, B163_15, B163_16, B163_17, B163_18, B163_19, isIn_t, isIn_f, xcI_some, xcV_some, if_pos, if_neg, xg_in, wr_of, if_true, if_false, or_true, true_or]
    · clear h
      simp (disch := omega) only [V163, B163_0, B163_1, B163_2, B163_3, B163_4, B163_5, B163_6, B163_7, B163_8, B163_9, B163_10, B163_11, B163_12, B163_13, B163_14, B163_15, B163_16, B163_17, B163_18, B163_19, isIn_t, isIn_f, xcI_some, xcV_some, if_pos, if_neg, xg_in, wr_of, if_true, if_false, or_true, true_or]
    · clear h
      simp (disch := omega) only [V163, B163_0, B163_1, B163_2, B163_3, B163_4, B163_5, B163_6, B163_7, B163_8, B163_9, B163_10, B163_11, B163_12, B163_13, B163_14, B163_15, B163_16, B163_17, B163_18, B163_19, isIn_t, isIn_f, xcI_some, xcV_some, if_pos, if_neg, xg_in, wr_of, if_true, if_false, or_true, true_or]
    · clear h
      simp (disch := omega) only [V163, B163_0, B163_1, B163_2, B163_3, B163_4, B163_5, B163_6, B163_7, B163_8, B163_9, B163_10, B163_11, B163_12, B163_13, B163_14, B163_15, B163_16, B163_17, B163_18, B163_19, isIn_t, isIn_f, xcI_some, xcV_some, if_pos, if_neg, xg_in, wr_of, if_true, if_false, or_true, true_or]
  · subst g
    rcases (show (a < 0) ∨ (7 < a) by omega) with g | g
    · clear h
      simp (disch := omega) only [V163, B163_0, B163_1, B163_2, B163_3, B163_4, B163_5, B163_6, B163_7, B163_8, B163_9, B163_10, B163_11, B163_12, B163_13, B163_14, B163_15, B163_16, B163_17, B163_18, B163_19, isIn_t, isIn_f, xcI_some, xcV_some, if_pos, if_neg, xg_in, wr_of, if_true, if_false, or_true, true_or]
    · clear h
      simp (disch := omega) only [V163, B163_0, B163_1, B163_2, B163_3, B163_4, B163_5, B163_6, B163_7, B163_8, B163_9, B163_10, B163_11, B163_12, B163_13, B163_14, B163_15, B163_16, B163_17, B163_18, B163_19, isIn_t, isIn_f, xcI_some, xcV_some, if_pos, if_neg, xg_in, wr_of, if_true, if_false, or_true, true_or]
  · clear h
    rcases g with g | g
    · simp (disch := omega) only [V163, B163_0, B163_1, B163_2, B163_3, B163_4, B163_5, B163_6, B163_7, B163_8, B163_9, B163_10, B163_11, B163_12, B163_13, B163_14, B163_15, B163_16, B163_17, B163_18, B163_19, isIn_t, isIn_f, xcI_some, xcV_some, if_pos, if_neg, xg_in, wr_of, if_true, if_false, or_true, true_or]
    · simp (disch := omega) only [V163, B163_0, B163_1, B163_2, B163_3, B163_4, B163_5, B163_6, B163_7, B163_8, B163_9, B163_10, B163_11, B163_12, B163_13, B163_14, B163_15, B163_16, B163_17, B163_18, B163_19, isIn_t, isIn_f, xcI_some, xcV_some, if_pos, if_neg, xg_in, wr_of, if_true, if_false, or_true, true_or]
theorem mtold_t {k a b c : Int} (h : good k a b c) : AT sc 172 0 [vR 139, vI k, vI a, vI b, vI c, vN, vN] [] (SK, μ) = AT sc 172 21 [vR 139, vI k, vI a, vI b, vI c, vN, vN] [] (SK, up2 μ 139 3 0) := by
  unfold good at h
  rcases (show k = 0 ∨ k = 1 ∨ k = 2 ∨ k = 3 ∨ k = 4 by omega) with g | g | g | g | g
  · subst g
    have g : 0 ≤ a ∧ a ≤ 7 ∧ 1 ≤ b ∧ b ≤ 1000 ∧ 0 ≤ c ∧ c < b := by omega
    clear h
    simp (disch := omega) only [B172_0, B172_1, B172_2, B172_3, B172_4, B172_5, B172_6, B172_7, B172_8, B172_9, B172_10, B172_11, B172_12, B172_13, B172_14, B172_15, B172_16, B172_17, B172_18, B172_19, B172_20, in_t, in_f, xcI_some, xcV_some, if_pos, if_neg, xg_in, wr_of, if_true, if_false, or_true, true_or]
  · subst g
    have g : 0 ≤ a ∧ a ≤ 31 ∧ 0 ≤ b ∧ b ≤ 9 := by omega
    clear h
    simp (disch := omega) only [B172_0, B172_1, B172_2, B172_3, B172_4, B172_5, B172_6, B172_7, B172_8, B172_9, B172_10, B172_11, B172_12, B172_13, B172_14, B172_15, B172_16, B172_17, B172_18, B172_19, B172_20, in_t, in_f, xcI_some, xcV_some, if_pos, if_neg, xg_in, wr_of, if_true, if_false, or_true, true_or]
  · subst g
    have g : 0 ≤ a ∧ a ≤ 7 := by omega
    clear h
    simp (disch := omega) only [B172_0, B172_1, B172_2, B172_3, B172_4, B172_5, B172_6, B172_7, B172_8, B172_9, B172_10, B172_11, B172_12, B172_13, B172_14, B172_15, B172_16, B172_17, B172_18, B172_19, B172_20, in_t, in_f, xcI_some, xcV_some, if_pos, if_neg, xg_in, wr_of, if_true, if_false, or_true, true_or]
  · subst g
    have g : 0 ≤ a ∧ a ≤ 7 ∧ 0 ≤ b ∧ b ≤ 24 ∧ 0 ≤ c ∧ c ≤ 24 := by omega
    clear h
    simp (disch := omega) only [B172_0, B172_1, B172_2, B172_3, B172_4, B172_5, B172_6, B172_7, B172_8, B172_9, B172_10, B172_11, B172_12, B172_13, B172_14, B172_15, B172_16, B172_17, B172_18, B172_19, B172_20, in_t, in_f, xcI_some, xcV_some, if_pos, if_neg, xg_in, wr_of, if_true, if_false, or_true, true_or]
  · subst g
    have g : 0 ≤ a ∧ a ≤ 7 := by omega
    clear h
    simp (disch := omega) only [B172_0, B172_1, B172_2, B172_3, B172_4, B172_5, B172_6, B172_7, B172_8, B172_9, B172_10, B172_11, B172_12, B172_13, B172_14, B172_15, B172_16, B172_17, B172_18, B172_19, B172_20, in_t, in_f, xcI_some, xcV_some, if_pos, if_neg, xg_in, wr_of, if_true, if_false, or_true, true_or]
theorem mtold_f {k a b c : Int} (h : ¬ good k a b c) : AT sc 172 0 [vR 139, vI k, vI a, vI b, vI c, vN, vN] [] (SK, μ) = some (some (vI (-2)), (SK, up2 μ 139 3 0)) := by
  unfold good at h
  rcases (show k = 0 ∨ k = 1 ∨ k = 2 ∨ k = 3 ∨ k = 4 ∨ (k < 0 ∨ 4 < k) by omega) with g | g | g | g | g | g
  · subst g
    rcases (show (a < 0) ∨ (7 < a) ∨ (0 ≤ a ∧ a ≤ 7 ∧ b < 1) ∨ (0 ≤ a ∧ a ≤ 7 ∧ 1 ≤ b ∧ 1000 < b) ∨ (0 ≤ a ∧ a ≤ 7 ∧ 1 ≤ b ∧ b ≤ 1000 ∧ c < 0) ∨ (0 ≤ a ∧ a ≤ 7 ∧ 1 ≤ b ∧ b ≤ 1000 ∧ b ≤ c) by omega) with g | g | g | g | g | g
    · clear h
      simp (disch := omega) only [B172_0, B172_1, B172_2, B172_3, B172_4, B172_5, B172_6, B172_7, B172_8, B172_9, B172_10, B172_11, B172_12, B172_13, B172_14, B172_15, B172_16, B172_17, B172_18, B172_19, B172_20, in_t, in_f, xcI_some, xcV_some, if_pos, if_neg, xg_in, wr_of, if_true, if_false, or_true, true_or]
    · clear h
      simp (disch := omega) only [B172_0, B172_1, B172_2, B172_3, B172_4, B172_5, B172_6, B172_7, B172_8, B172_9, B172_10, B172_11, B172_12, B172_13, B172_14, B172_15, B172_16, B172_17, B172_18, B172_19, B172_20, in_t, in_f, xcI_some, xcV_some, if_pos, if_neg, xg_in, wr_of, if_true, if_false, or_true, true_or]
    · clear h
      simp (disch := omega) only [B172_0, B172_1, B172_2, B172_3, B172_4, B172_5, B172_6, B172_7, B172_8, B172_9, B172_10, B172_11, B172_12, B172_13, B172_14, B172_15, B172_16, B172_17, B172_18, B172_19, B172_20, in_t, in_f, xcI_some, xcV_some, if_pos, if_neg, xg_in, wr_of, if_true, if_false, or_true, true_or]
    · clear h
      simp (disch := omega) only [B172_0, B172_1, B172_2, B172_3, B172_4, B172_5, B172_6, B172_7, B172_8, B172_9, B172_10, B172_11, B172_12, B172_13, B172_14, B172_15, B172_16, B172_17, B172_18, B172_19, B172_20, in_t, in_f, xcI_some, xcV_some, if_pos, if_neg, xg_in, wr_of, if_true, if_false, or_true, true_or]
    · clear h
      simp (disch := omega) only [B172_0, B172_1, B172_2, B172_3, B172_4, B172_5, B172_6, B172_7, B172_8, B172_9, B172_10, B172_11, B172_12, B172_13, B172_14, B172_15, B172_16, B172_17, B172_18, B172_19, B172_20, in_t, in_f, xcI_some, xcV_some, if_pos, if_neg, xg_in, wr_of, if_true, if_false, or_true, true_or]
    · clear h
      simp (disch := omega) only [B172_0, B172_1, B172_2, B172_3, B172_4, B172_5, B172_6, B172_7, B172_8, B172_9, B172_10, B172_11, B172_12, B172_13, B172_14, B172_15, B172_16, B172_17, B172_18, B172_19, B172_20, in_t, in_f, xcI_some, xcV_some, if_pos, if_neg, xg_in, wr_of, if_true, if_false, or_true, true_or]
  · subst g
    rcases (show (a < 0) ∨ (31 < a) ∨ (0 ≤ a ∧ a ≤ 31 ∧ b < 0) ∨ (0 ≤ a ∧ a ≤ 31 ∧ 9 < b) by omega) with g | g | g | g
    · clear h
      simp (disch := omega) only [B172_0, B172_1, B172_2, B172_3, B172_4, B172_5, B172_6, B172_7, B172_8, B172_9, B172_10, B172_11, B172_12, B172_13, B172_14, B172_15, B172_16, B172_17, B172_18, B172_19, B172_20, in_t, in_f, xcI_some, xcV_some, if_pos, if_neg, xg_in, wr_of, if_true, if_false, or_true, true_or]
    · clear h
      simp (disch := omega) only [B172_0, B172_1, B172_2, B172_3, B172_4, B172_5, B172_6, B172_7, B172_8, B172_9, B172_10, B172_11, B172_12, B172_13, B172_14, B172_15, B172_16, B172_17, B172_18, B172_19, B172_20, in_t, in_f, xcI_some, xcV_some, if_pos, if_neg, xg_in, wr_of, if_true, if_false, or_true, true_or]
    · clear h
      simp (disch := omega) only [B172_0, B172_1, B172_2, B172_3, B172_4, B172_5, B172_6, B172_7, B172_8, B172_9, B172_10, B172_11, B172_12, B172_13, B172_14, B172_15, B172_16, B172_17, B172_18, B172_19, B172_20, in_t, in_f, xcI_some, xcV_some, if_pos, if_neg, xg_in, wr_of, if_true, if_false, or_true, true_or]
    · clear h
      simp (disch := omega) only [B172_0, B172_1, B172_2, B172_3, B172_4, B172_5, B172_6, B172_7, B172_8, B172_9, B172_10, B172_11, B172_12, B172_13, B172_14, B172_15, B172_16, B172_17, B172_18, B172_19, B172_20, in_t, in_f, xcI_some, xcV_some, if_pos, if_neg, xg_in, wr_of, if_true, if_false, or_true, true_or]
  · subst g
    rcases (show (a < 0) ∨ (7 < a) by omega) with g | g
    · clear h
      simp (disch := omega) only [B172_0, B172_1, B172_2, B172_3, B172_4, B172_5, B172_6, B172_7, B172_8, B172_9, B172_10, B172_11, B172_12, B172_13, B172_14, B172_15, B172_16, B172_17, B172_18, B172_19, B172_20, in_t, in_f, xcI_some, xcV_some, if_pos, if_neg, xg_in, wr_of, if_true, if_false, or_true, true_or]
    · clear h
      simp (disch := omega) only [B172_0, B172_1, B172_2, B172_3, B172_4, B172_5, B172_6, B172_7, B172_8, B172_9, B172_10, B172_11, B172_12, B172_13, B172_14, B172_15, B172_16, B172_17, B172_18, B172_19, B172_20, in_t, in_f, xcI_some, xcV_some, if_pos, if_neg, xg_in, wr_of, if_true, if_false, or_true, true_or]
  · subst g
    rcases (show (a < 0) ∨ (7 < a) ∨ (0 ≤ a ∧ a ≤ 7 ∧ b < 0) ∨ (0 ≤ a ∧ a ≤ 7 ∧ 24 < b) ∨ (0 ≤ a ∧ a ≤ 7 ∧ 0 ≤ b ∧ b ≤ 24 ∧ c < 0) ∨ (0 ≤ a ∧ a ≤ 7 ∧ 0 ≤ b ∧ b ≤ 24 ∧ 24 < c) by omega) with g | g | g | g | g | g
    · clear h
      simp (disch := omega) only [B172_0, B172_1, B172_2, B172_3, B172_4, B172_5, B172_6, B172_7, B172_8, B172_9, B172_10, B172_11, B172_12, B172_13, B172_14, B172_15, B172_16, B172_17, B172_18, B172_19, B172_20, in_t, in_f, xcI_some, xcV_some, if_pos, if_neg, xg_in, wr_of, if_true, if_false, or_true, true_or]
    · clear h
      simp (disch := omega) only [B172_0, B172_1, B172_2, B172_3, B172_4, B172_5, B172_6, B172_7, B172_8, B172_9, B172_10, B172_11, B172_12, B172_13, B172_14, B172_15, B172_16, B172_17, B172_18, B172_19, B172_20, in_t, in_f, xcI_some, xcV_some, if_pos, if_neg, xg_in, wr_of, if_true, if_false, or_true, true_or]
    · clear h
      simp (disch := omega) only [B172_0, B172_1, B172_2, B172_3, B172_4, B172_5, B172_6, B172_7, B172_8, B172_9, B172_10, B172_11, B172_12, B172_13, B172_14, B172_15, B172_16, B172_17, B172_18, B172_19, B172_20, in_t, in_f, xcI_some, xcV_some, if_pos, if_neg, xg_in, wr_of, if_true, if_false, or_true, true_or]
    · clear h
      simp (disch := omega) only [B172_0, B172_1, B172_2, B172_3, B172_4, B172_5, B172_6, B172_7, B172_8, B172_9, B172_10, B172_11, B172_12, B172_13, B172_14, B172_15, B172_16, B172_17, B172_18, B172_19, B172_20, in_t, in_f, xcI_some, xcV_some, if_pos, if_neg, xg_in, wr_of, if_true, if_false, or_true, true_or]
    · clear h
      simp (disch := omega) only [B172_0, B172_1, B172_2, B172_3, B172_4, B172_5, B172_6, B172_7, B172_8, B172_9, B172_10, B172_11, B172_12, B172_13, B172_14, B172_15, B172_16, B172_17, B172_18, B172_19, B172_20, in_t, in_f, xcI_some, xcV_some, if_pos, if_neg, xg_in, wr_of, if_true, if_false, or_true, true_or]
    · clear h
      simp (disch := omega) only [B172_0, B172_1, B172_2, B172_3, B172_4, B172_5, B172_6, B172_7, B172_8, B172_9, B172_10, B172_11, B172_12, B172_13, B172_14, B172_15, B172_16, B172_17, B172_18, B172_19, B172_20, in_t, in_f, xcI_some, xcV_some, if_pos, if_neg, xg_in, wr_of, if_true, if_false, or_true, true_or]
  · subst g
    rcases (show (a < 0) ∨ (7 < a) by omega) with g | g
    · clear h
      simp (disch := omega) only [B172_0, B172_1, B172_2, B172_3, B172_4, B172_5, B172_6, B172_7, B172_8, B172_9, B172_10, B172_11, B172_12, B172_13, B172_14, B172_15, B172_16, B172_17, B172_18, B172_19, B172_20, in_t, in_f, xcI_some, xcV_some, if_pos, if_neg, xg_in, wr_of, if_true, if_false, or_true, true_or]
    · clear h
      simp (disch := omega) only [B172_0, B172_1, B172_2, B172_3, B172_4, B172_5, B172_6, B172_7, B172_8, B172_9, B172_10, B172_11, B172_12, B172_13, B172_14, B172_15, B172_16, B172_17, B172_18, B172_19, B172_20, in_t, in_f, xcI_some, xcV_some, if_pos, if_neg, xg_in, wr_of, if_true, if_false, or_true, true_or]
  · clear h
    rcases g with g | g
    · simp (disch := omega) only [B172_0, B172_1, B172_2, B172_3, B172_4, B172_5, B172_6, B172_7, B172_8, B172_9, B172_10, B172_11, B172_12, B172_13, B172_14, B172_15, B172_16, B172_17, B172_18, B172_19, B172_20, in_t, in_f, xcI_some, xcV_some, if_pos, if_neg, xg_in, wr_of, if_true, if_false, or_true, true_or]
    · simp (disch := omega) only [B172_0, B172_1, B172_2, B172_3, B172_4, B172_5, B172_6, B172_7, B172_8, B172_9, B172_10, B172_11, B172_12, B172_13, B172_14, B172_15, B172_16, B172_17, B172_18, B172_19, B172_20, in_t, in_f, xcI_some, xcV_some, if_pos, if_neg, xg_in, wr_of, if_true, if_false, or_true, true_or]
theorem op_test (h : yAll μ) {kd a b c : Int} : yOp sc 134 172 [vI kd, vI a, vI b, vI c] μ := by
  obtain ⟨⟨a1, a2, a3, a4, a5, a6, a7, a8, a9, a10, a11⟩, hk⟩ := id h
  have n6 := a1.1
  have n3 := a1.2.1
  have n5 := a2.2
  have n10 : 0 ≤ μ 140 10 ∧ μ 140 10 ≤ 600 := ⟨a3.1, a3.2.1⟩
  have n7 : 0 ≤ μ 140 7 ∧ μ 140 7 ≤ 60 := ⟨a4.1, a4.2.1⟩
  have n0 : 0 ≤ μ 140 0 ∧ μ 140 0 ≤ 60 ∧ μ 2 3 = μ 140 0 := a6.1
  have n1 : 0 ≤ μ 140 1 ∧ μ 140 1 ≤ 1152 ∧ μ 2 4 = μ 140 1 := a6.2.1
  have n8 : 0 ≤ μ 140 8 ∧ μ 140 8 ≤ 60 := ⟨a7.1, a7.2.1⟩
  have n9 := a8.1
  have c7 := a4.2.2.1
  have c8 := a7.2.2.1
  have c10 := a3.2.2.1
  by_cases hg : good kd a b c
  · by_cases hn : μ 140 6 = 24
    · refine .same h (-4) ?_ fun ν hν => ?_
      · simp (disch := omega) only [V134, B134_0, B134_1, B134_2, B134_3, B134_4, B134_5, V119, B119_0, told_t hg, xcI_some, xcV_some, if_pos, if_neg, xg_in, wr_of, if_true, if_false, or_true, true_or]
      · have ν6 : ν 140 6 = 24 := by rw [hν]; exact hn
        rw [V172, mtold_t hg]
        simp (disch := omega) only [B172_21, xg_in, up2_ne, if_pos]
    · refine .mk h (μ 140 6) (up2 (up2 (up2 (up2 (up2 (up2 μ 61 (μ 140 6).toNat kd) 63 (μ 140 6).toNat a) 65 (μ 140 6).toNat b) 67 (μ 140 6).toNat c) 69 (μ 140 6).toNat 0) 59 5 (μ 140 6 + 1)) (up1 (up1 (up1 (up1 (up1 (up1 (μ 140) 6 (μ 140 6 + 1)) (41484 + μ 140 6).toNat kd) (41508 + μ 140 6).toNat a) (41532 + μ 140 6).toNat b) (41556 + μ 140 6).toNat c) (41580 + μ 140 6).toNat 0) ?_ (((((frC.up (by omega)).tr (.up (by omega))).tr (.up (by omega))).tr (.up (by omega))).tr (.up (by omega))|>.tr (.up (by omega))) (fun ν hν => ⟨up2 (up2 (up2 (up2 (up2 (up2 (up2 ν 139 3 0) 140 6 (μ 140 6 + 1)) 140 (41484 + μ 140 6).toNat kd) 140 (41508 + μ 140 6).toNat a) 140 (41532 + μ 140 6).toNat b) 140 (41556 + μ 140 6).toNat c) 140 (41580 + μ 140 6).toNat 0, ?_, ?_, ?_⟩) ?_
      · simp (disch := omega) only [V134, B134_0, B134_1, B134_2, B134_3, B134_4, B134_5, V119, B119_0, V123, B123_0, B123_1, B123_2, B123_3, B123_4, B123_5, told_t hg, S_7, S_9, S_11, S_13, S_15, S_17, S_19, S_21, S_24, S_26, S_28, S_30, S_32, S_34, S_36, S_39, S_42, S_44, S_46, S_48, S_50, S_52, S_55, S_57, S_60, S_62, S_64, S_66, S_68, st_in, n6.2.2, up2_ne, up2_eq, xcI_some, xcV_some, if_pos, if_neg, xg_in, wr_of, if_true, if_false, or_true, true_or]
        rw [show μ 140 6 + 1 - 1 = μ 140 6 by omega]
      · have ν6 : ν 140 6 = μ 140 6 := by rw [hν]
        rw [V172, mtold_t hg]
        simp (disch := omega) only [B172_21, B172_22, B172_23, B172_24, B172_25, B172_26, B172_27, B172_28, up2_ne, ν6, xcI_some, xcV_some, if_pos, if_neg, xg_in, wr_of, if_true, if_false, or_true, true_or]
      · simp (disch := omega) only [up2_row, up2_k, hν]
      · exact frM.th.tr ((frM.up (by omega)).tr ((frM.up (by omega)).tr ((frM.up (by omega)).tr ((frM.up (by omega)).tr ((frM.up (by omega)).tr (frM.up (by omega)))))))
      · skip
        have e : ∀ i : Nat, (i ≠ 6 ∧ i ≠ (41484 + μ 140 6).toNat ∧ i ≠ (41508 + μ 140 6).toNat ∧ i ≠ (41532 + μ 140 6).toNat ∧ i ≠ (41556 + μ 140 6).toNat ∧ i ≠ (41580 + μ 140 6).toNat) → (up1 (up1 (up1 (up1 (up1 (up1 (μ 140) 6 (μ 140 6 + 1)) (41484 + μ 140 6).toNat kd) (41508 + μ 140 6).toNat a) (41532 + μ 140 6).toNat b) (41556 + μ 140 6).toNat c) (41580 + μ 140 6).toNat 0) i = μ 140 i := fun i hi => by simp (disch := omega) only [up1_ne]
        have eC : ∀ k i : Nat, ((k < 59 ∨ 69 < k ∨ (k = 59 ∧ i ≠ 5) ∨ (k ≠ 59 ∧ i ≠ (μ 140 6).toNat))) → (up2 (up2 (up2 (up2 (up2 (up2 μ 61 (μ 140 6).toNat kd) 63 (μ 140 6).toNat a) 65 (μ 140 6).toNat b) 67 (μ 140 6).toNat c) 69 (μ 140 6).toNat 0) 59 5 (μ 140 6 + 1)) k i = μ k i := fun k i hi => by simp (disch := omega) only [up2_ne]
        refine ⟨?_, yL_fr a2 (eC 1 6 (by omega)) (e 5 (by omega)), yG_fr a3 (fun k i hk => eC k i (by omega)) (fun i hi => e i (by omega)), yA_fr a4 (fun k i hk => eC k i (by unfold dA at hk; omega)) (fun i hi => e i (by unfold aA at hi; omega)), yE_fr a5 a4 (fun k i hk => eC k i (by unfold dE at hk; omega)) (fun i _ _ => eC 5 i (by omega)) (by rw [e 1 (by omega)]; exact Int.le_refl _) (fun i hi => e i (by unfold aE at hi; omega)), yB_fr a6 ⟨eC 2 3 (by omega), eC 2 4 (by omega)⟩ ⟨e 0 (by omega), e 1 (by omega)⟩ (fun s _ _ k i hk => eC k i (by unfold dS at hk; omega)) (fun i _ _ => eC 5 i (by omega)) (fun s _ _ i hi => e i (by unfold aS at hi; omega)), yW_fr a7 ⟨a4.1, a4.2.1⟩ (fun k i hk => eC k i (by omega)) (fun i hi => e i (by omega)), yP_fr a8 (by rw [e 7 (by omega)]; exact Int.le_refl _) (fun k i hk => eC k i (by omega)) (fun i hi => e i (by omega)) (fun u u0 u1 _ => e (41964 + u).toNat (by omega)) (fun u u0 u1 h => by rw [e (41724 + u).toNat (by omega)]; exact h), yO_fr a9 a4 a6 a5 ⟨e 0 (by omega), e 7 (by omega)⟩ (fun s _ _ i hi => e i (by unfold aS at hi; omega)) (fun i hi => e i (by omega)), yM_fr a10 a4 (fun i hi => e i (by omega)), yN_fr a11 a4 (fun i hi => e i (by omega)) (fun u u0 u1 h => by rw [e (41724 + u).toNat (by omega)]; exact h) (fun u u0 u1 h => by rw [e (41724 + u).toNat (by omega)] at h; exact h)⟩
        have e6 : (up1 (up1 (up1 (up1 (up1 (up1 (μ 140) 6 (μ 140 6 + 1)) (41484 + μ 140 6).toNat kd) (41508 + μ 140 6).toNat a) (41532 + μ 140 6).toNat b) (41556 + μ 140 6).toNat c) (41580 + μ 140 6).toNat 0) 6 = μ 140 6 + 1 := by simp (disch := omega) only [up1_ne, up1_eq]
        refine ⟨?_, ?_, ?_, fun t t0 t1 => ?_⟩
        · rw [e6, up2_eq]; exact ⟨by omega, by omega, rfl⟩
        · rw [e 3 (by omega), e 4 (by omega), eC 59 6 (by omega), eC 59 7 (by omega)]; exact a1.2.1
        · rw [e 11 (by omega), e 2 (by omega), eC 59 8 (by omega), eC 59 9 (by omega)]; exact a1.2.2.1
        · rw [e6] at t1
          by_cases htn : t = μ 140 6
          · rw [htn]
            simp (disch := omega) only [up1_ne, up1_eq, up2_ne, up2_eq]
            unfold good at hg
            unfold tOK
            exact ⟨trivial, trivial, trivial, trivial, trivial, by omega⟩
          · have h2 := a1.2.2.2 t t0 (by omega)
            rw [e (41484 + t).toNat (by omega), e (41508 + t).toNat (by omega), e (41532 + t).toNat (by omega), e (41556 + t).toNat (by omega), e (41580 + t).toNat (by omega), eC 61 t.toNat (by omega), eC 63 t.toNat (by omega), eC 65 t.toNat (by omega), eC 67 t.toNat (by omega), eC 69 t.toNat (by omega)]
            exact h2
  · refine .same h (-2) ?_ fun ν hν => ?_
    · simp (disch := omega) only [V134, B134_0, B134_1, B134_2, B134_3, B134_4, B134_5, told_f hg, xcI_some, xcV_some, if_pos, if_neg, xg_in, wr_of, if_true, if_false, or_true, true_or]
    · rw [V172, mtold_f hg]
theorem op_inLine (h : yAll μ) {k : Int} : yOp sc 150 224 [vI k] μ := by
  obtain ⟨⟨a1, a2, a3, a4, a5, a6, a7, a8, a9, a10, a11⟩, hk⟩ := id h
  have n6 := a1.1
  have n3 := a1.2.1
  have n5 := a2.2
  have n10 : 0 ≤ μ 140 10 ∧ μ 140 10 ≤ 600 := ⟨a3.1, a3.2.1⟩
  have n7 : 0 ≤ μ 140 7 ∧ μ 140 7 ≤ 60 := ⟨a4.1, a4.2.1⟩
  have n0 : 0 ≤ μ 140 0 ∧ μ 140 0 ≤ 60 ∧ μ 2 3 = μ 140 0 := a6.1
  have n1 : 0 ≤ μ 140 1 ∧ μ 140 1 ≤ 1152 ∧ μ 2 4 = μ 140 1 := a6.2.1
  have n8 : 0 ≤ μ 140 8 ∧ μ 140 8 ≤ 60 := ⟨a7.1, a7.2.1⟩
  have n9 := a8.1
  have c7 := a4.2.2.1
  have c8 := a7.2.2.1
  have c10 := a3.2.2.1
  by_cases hk2 : 0 ≤ k ∧ k < μ 140 8
  · have g := a7.2.2.2.1 k hk2.1 hk2.2
    refine .same h (μ 140 (49044 + k).toNat) ?_ fun ν hν => ?_
    · simp (disch := omega) only [V150, B150_0, B150_1, V84, B84_0, B84_1, B84_2, B84_3, B84_4, isIn_t, G_7, G_9, G_11, G_13, G_15, G_17, G_19, G_21, G_24, G_26, G_28, G_30, G_32, G_34, G_36, G_39, G_42, G_44, G_46, G_48, G_50, G_52, G_55, G_57, G_60, G_62, G_64, G_66, G_68, gt_in, c8, g.1, xcI_some, xcV_some, if_pos, if_neg, xg_in, wr_of, if_true, if_false, or_true, true_or]
    · simp (disch := omega) only [V224, B224_0, B224_1, B224_2, B224_3, in_t, up2_ne, hν, xcI_some, xcV_some, if_pos, if_neg, xg_in, wr_of, if_true, if_false, or_true, true_or]
  · refine .same h (-1) ?_ fun ν hν => ?_
    · simp (disch := omega) only [V150, B150_0, B150_1, V84, B84_0, B84_1, B84_2, B84_3, B84_4, isIn_f, c8, xcI_some, xcV_some, if_pos, if_neg, xg_in, wr_of, if_true, if_false, or_true, true_or]
    · simp (disch := omega) only [V224, B224_0, B224_1, B224_2, B224_3, in_f, up2_ne, hν, xcI_some, xcV_some, if_pos, if_neg, xg_in, wr_of, if_true, if_false, or_true, true_or]
theorem op_log (h : yAll μ) {i w : Int} : yOp sc 153 226 [vI i, vI w] μ := by
  obtain ⟨⟨a1, a2, a3, a4, a5, a6, a7, a8, a9, a10, a11⟩, hk⟩ := id h
  have n6 := a1.1
  have n3 := a1.2.1
  have n5 := a2.2
  have n10 : 0 ≤ μ 140 10 ∧ μ 140 10 ≤ 600 := ⟨a3.1, a3.2.1⟩
  have n7 : 0 ≤ μ 140 7 ∧ μ 140 7 ≤ 60 := ⟨a4.1, a4.2.1⟩
  have n0 : 0 ≤ μ 140 0 ∧ μ 140 0 ≤ 60 ∧ μ 2 3 = μ 140 0 := a6.1
  have n1 : 0 ≤ μ 140 1 ∧ μ 140 1 ≤ 1152 ∧ μ 2 4 = μ 140 1 := a6.2.1
  have n8 : 0 ≤ μ 140 8 ∧ μ 140 8 ≤ 60 := ⟨a7.1, a7.2.1⟩
  have n9 := a8.1
  have c7 := a4.2.2.1
  have c8 := a7.2.2.1
  have c10 := a3.2.2.1
  by_cases hw : 0 ≤ w ∧ w ≤ 3
  · by_cases hi : 0 ≤ i ∧ i < μ 140 10
    · have g := a3.2.2.2 (4 * i + w) (by omega) (by omega)
      refine .same h (μ 140 (49296 + (4 * i + w)).toNat) ?_ fun ν hν => ?_
      · simp (disch := omega) only [V153, B153_0, B153_1, B153_2, B153_3, B153_4, B153_5, B153_6, B153_7, V89, B89_0, V93, B93_0, B93_1, isIn_t, G_7, G_9, G_11, G_13, G_15, G_17, G_19, G_21, G_24, G_26, G_28, G_30, G_32, G_34, G_36, G_39, G_42, G_44, G_46, G_48, G_50, G_52, G_55, G_57, G_60, G_62, G_64, G_66, G_68, gt_in, c10, xcI_some, xcV_some, if_pos, if_neg, xg_in, wr_of, if_true, if_false, or_true, true_or]
        rw [← g.1]
        simp only [show i * 4 + w = 4 * i + w by omega]
      · simp (disch := omega) only [V226, B226_0, B226_1, B226_2, B226_3, B226_4, B226_5, in_t, up2_ne, hν, xcI_some, xcV_some, if_pos, if_neg, xg_in, wr_of, if_true, if_false, or_true, true_or]
        simp only [show (49296 + 4 * i + w) = (49296 + (4 * i + w)) by omega]
    · refine .same h (-1) ?_ fun ν hν => ?_
      · simp (disch := omega) only [V153, B153_0, B153_1, B153_2, B153_3, B153_4, B153_5, B153_6, B153_7, V89, B89_0, isIn_t, isIn_f, c10, xcI_some, xcV_some, if_pos, if_neg, xg_in, wr_of, if_true, if_false, or_true, true_or]
      · simp (disch := omega) only [V226, B226_0, B226_1, B226_2, B226_3, B226_4, B226_5, in_t, in_f, up2_ne, hν, xcI_some, xcV_some, if_pos, if_neg, xg_in, wr_of, if_true, if_false, or_true, true_or]
  · refine .same h (-2) ?_ fun ν hν => ?_
    · simp (disch := omega) only [V153, B153_0, B153_1, B153_2, B153_3, B153_4, B153_5, B153_6, B153_7, V89, B89_0, isIn_f, c10, xcI_some, xcV_some, if_pos, if_neg, xg_in, wr_of, if_true, if_false, or_true, true_or]
    · simp (disch := omega) only [V226, B226_0, B226_1, B226_2, B226_3, B226_4, B226_5, in_f, up2_ne, hν, xcI_some, xcV_some, if_pos, if_neg, xg_in, wr_of, if_true, if_false, or_true, true_or]
end

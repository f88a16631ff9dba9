/-! count, about -/
theorem sumN_lo {f : Nat → Int} : ∀ n, (∀ k, k < n → 0 ≤ f k) → 0 ≤ sumN f n := by
  intro n
  induction n with
  | zero => intro _; exact Int.le_refl _
  | succ n ih =>
    intro h
    unfold sumN
    have := ih (fun k hk => h k (by omega))
    have := h n (by omega)
    omega
theorem sumN_hi {f : Nat → Int} {b : Int} : ∀ n, (∀ k, k < n → f k ≤ b) → sumN f n ≤ b * n := by
  intro n
  induction n with
  | zero => intro _; simp [sumN]
  | succ n ih =>
    intro h
    unfold sumN
    have := ih (fun k hk => h k (by omega))
    have := h n (by omega)
    rw [show ((n + 1 : Nat) : Int) = (n : Int) + 1 by omega, Int.mul_add]
    omega
section
variable {sc : Nat × (Nat → Int)} {μ ν : xM} {m : Nat → Int}
theorem allU_s {m : Nat → Int} {n : Nat} : allU m (n + 1) = rowU m n ++ allU m n := rfl
def flN (m : Nat → Int) (s : Int) : Nat → Int := fun f => m (12 + 8 * s + (f : Int)).toNat
theorem K6 {s : Int} (s0 : 0 ≤ s) (s1 : s < 63) (hF : ∀ f : Int, 0 ≤ f → f < 8 → μ 4 (s * 8 + f).toNat = m (12 + 8 * s + f).toNat ∧ 0 ≤ m (12 + 8 * s + f).toNat ∧ m (12 + 8 * s + f).toNat ≤ 24) : EV sc 6 [vR 2, vI s] (SK, μ) = some (some (vI (sumN (flN m s) 8)), (SK, μ)) := by
  have l : ∀ (k j : Nat) (i x : Int), i = j → j + k = 8 → x = sumN (flN m s) j → AT sc 6 1 [vR 2, vI s, vI x, vI i] [] (SK, μ) = some (some (vI (sumN (flN m s) 8)), (SK, μ)) := by
    intro k
    induction k with
    | zero =>
      intro j i x hi e hx
      rw [B6_1]
      simp (disch := omega) only [B6_3, xcI_some, xcV_some, if_pos, if_neg, xg_in, wr_of, if_true, if_false, or_true, true_or]
      rw [hx, show j = 8 by omega]
    | succ k ih =>
      intro j i x hi e hx
      have g := hF i (by omega) (by omega)
      have h0 := sumN_lo (f := flN m s) j (fun k hk => (hF k (by omega) (by omega)).2.1)
      have h1 := sumN_hi (f := flN m s) (b := 24) j (fun k hk => (hF k (by omega) (by omega)).2.2)
      have ih1 := ih (j + 1) (i + 1) (x + m (12 + 8 * s + i).toNat) (by omega) (by omega) (by unfold sumN; rw [hx, hi]; rfl)
      rw [B6_1]
      simp (disch := omega) only [K5, g.1, B6_2, ih1, xcI_some, xcV_some, if_pos, if_neg, xg_in, wr_of, if_true, if_false, or_true, true_or]
  rw [V6, B6_0, l 8 0 0 0 rfl rfl rfl]
theorem m231_0 (hν : ν 140 = m) {s : Int} (hs : m 0 = s) (s0 : 0 ≤ s) (s1 : s < 63) (hF : ∀ f : Int, 0 ≤ f → f < 8 → 0 ≤ m (12 + 8 * s + f).toNat ∧ m (12 + 8 * s + f).toNat ≤ 24) : AT sc 231 1 [vR 139, vN, vI 0, vN] [] (SK, ν) = some (some (vI (sumN (flN m s) 8)), (SK, ν)) := by
  have l : ∀ (k j : Nat) (i x : Int), i = j → j + k = 8 → x = sumN (flN m s) j → AT sc 231 2 [vR 139, vN, vI x, vI i] [] (SK, ν) = some (some (vI (sumN (flN m s) 8)), (SK, ν)) := by
    intro k
    induction k with
    | zero =>
      intro j i x hi e hx
      rw [B231_2]
      simp (disch := omega) only [B231_4, xcI_some, xcV_some, if_pos, if_neg, xg_in, wr_of, if_true, if_false, or_true, true_or]
      rw [hx, show j = 8 by omega]
    | succ k ih =>
      intro j i x hi e hx
      have h0 := sumN_lo (f := flN m s) j (fun k hk => (hF k (by omega) (by omega)).1)
      have h1 := sumN_hi (f := flN m s) (b := 24) j (fun k hk => (hF k (by omega) (by omega)).2)
      have g := hF i (by omega) (by omega)
      have ih1 := ih (j + 1) (i + 1) (x + m (12 + 8 * s + i).toNat) (by omega) (by omega) (by unfold sumN; rw [hx, hi]; rfl)
      rw [B231_2]
      simp (disch := omega) only [m166, hν, hs, B231_3, ih1, xcI_some, xcV_some, if_pos, if_neg, xg_in, wr_of, if_true, if_false, or_true, true_or]
  rw [B231_1, l 8 0 0 0 rfl rfl rfl]
theorem m231_8 {C : xM} (hν : ν 140 = m) (h : yP C m) (h7 : m 7 ≤ 60) : ∃ ν' : xM, AT sc 231 8 [vR 139, vN, vI 0, vN] [] (SK, ν) = some (some (vI (chU m (wk m)).length), (SK, ν')) ∧ (∀ k, k ≠ 143 → ν' k = ν k) := by
  have l : ∀ (k j : Nat) (i x : Int) (ν1 : xM), i = j → j + k = (m 9).toNat → ν1 140 = m → x = (chU m (allU m j)).length → ∃ ν' : xM, AT sc 231 9 [vR 139, vN, vI x, vI i] [] (SK, ν1) = some (some (vI (chU m (wk m)).length), (SK, ν')) ∧ (∀ k, k ≠ 143 → ν' k = ν1 k) := by
    have h9 := h.1
    intro k
    induction k with
    | zero =>
      intro j i x ν1 hi e h1 hx
      refine ⟨ν1, ?_, fun _ _ => rfl⟩
      rw [B231_9]
      simp (disch := omega) only [h1, B231_11, xcI_some, xcV_some, if_pos, if_neg, xg_in, wr_of, if_true, if_false, or_true, true_or]
      unfold wk
      rw [hx, show j = (m 9).toNat by omega]
    | succ k ih =>
      intro j i x ν1 hi e h1 hx
      have gr := yP_r h (r := j) (by omega)
      obtain ⟨ν2, e1, e2, e3⟩ := m219 (sc := sc) h1 (r := j) (by omega) (by omega) gr.2.1 (fun u hu => by have := gr.2.2 u hu; omega)
      have hlen := chU_len (m := m) (rowU m j)
      rw [rowU_len] at hlen
      have hall : (allU m j).length ≤ 8 := by
        have t : ∀ a b, a ≤ b → (allU m a).length ≤ (allU m b).length := by
          intro a b hab
          induction b with
          | zero => rw [show a = 0 by omega]; exact Nat.le_refl _
          | succ b ih3 =>
            by_cases e5 : a = b + 1
            · rw [e5]; exact Nat.le_refl _
            · have := ih3 (by omega)
              rw [allU_s, List.length_append]
              omega
        have t1 := t j (m 9).toNat (by omega)
        have t2 := h.2.2.1
        omega
      have hlen2 := chU_len (m := m) (allU m j)
      obtain ⟨ν', f1, f2⟩ := ih (j + 1) (i + 1) (x + (chU m (rowU m j)).length) ν2 (by omega) (by omega) (by rw [e3 140 (by omega)]; exact h1) (by rw [allU_s, chU_app, List.length_append]; omega)
      refine ⟨ν', ?_, fun k hk => (f2 k hk).trans (e3 k hk)⟩
      subst hi
      rw [B231_9]
      simp (disch := omega) only [h1, e1, B231_10, f1, xcI_some, xcV_some, if_pos, if_neg, xg_in, wr_of, if_true, if_false, or_true, true_or]
  obtain ⟨ν', f1, f2⟩ := l (m 9).toNat 0 0 0 ν rfl (by omega) hν rfl
  exact ⟨ν', by rw [B231_8, f1], f2⟩
theorem op_count (h : yAll μ) {w : Int} : yOp sc 158 231 [vI w] μ := by
  obtain ⟨⟨a1, a2, a3, a4, a5, a6, a7, a8, a9, a10, a11⟩, hk⟩ := id h
  have n6 := a1.1
  have n3 := a1.2.1
  have n5 := a2.2
  have n10 : 0 ≤ μ 140 10 ∧ μ 140 10 ≤ 600 := ⟨a3.1, a3.2.1⟩
  have n7 : 0 ≤ μ 140 7 ∧ μ 140 7 ≤ 60 := ⟨a4.1, a4.2.1⟩
  have n0 : 0 ≤ μ 140 0 ∧ μ 140 0 ≤ 60 ∧ μ 2 3 = μ 140 0 := a6.1
  have n1 : 0 ≤ μ 140 1 ∧ μ 140 1 ≤ 1152 ∧ μ 2 4 = μ 140 1 := a6.2.1
  have n8 : 0 ≤ μ 140 8 ∧ μ 140 8 ≤ 60 := ⟨a7.1, a7.2.1⟩
  have n9 := a8.1
  have c7 := a4.2.2.1
  have c8 := a7.2.2.1
  have c10 := a3.2.2.1
  rcases (show w = 0 ∨ w = 1 ∨ w = 2 ∨ w = 3 ∨ w = 4 ∨ w = 5 ∨ w = 6 ∨ w = 7 ∨ w = 8 ∨ w = 9 ∨ (w < 0 ∨ 9 < w) by omega) with g | g | g | g | g | g | g | g | g | g | g
  · subst g
    have k6 := K6 (sc := sc) (μ := μ) (m := μ 140) (s := μ 140 0) (by omega) (by omega) (fun f f0 f1 => by have t := a6.2.2 (μ 140 0) f (by omega) (by omega) f0 f1; exact ⟨t.1, t.2.1, t.2.2.1⟩)
    refine .same h (sumN (flN (μ 140) (μ 140 0)) 8) ?_ fun ν hν => ?_
    · simp (disch := omega) only [V158, B158_0, B158_1, B158_2, B158_3, B158_4, B158_5, B158_6, B158_7, B158_8, B158_9, B158_10, B158_11, B158_12, B158_13, B158_14, B158_15, B158_16, B158_17, B158_18, B158_19, B158_20, B158_21, B158_22, V1, B1_0, n0.2.2, k6, xcI_some, xcV_some, if_pos, if_neg, xg_in, wr_of, if_true, if_false, or_true, true_or]
    · have t := m231_0 (sc := sc) (ν := up2 ν 139 3 0) (m := μ 140) (s := μ 140 0) (by rw [up2_k (by omega)]; exact hν) rfl (by omega) (by omega) (fun f f0 f1 => by have t := a6.2.2 (μ 140 0) f (by omega) (by omega) f0 f1; exact ⟨t.2.1, t.2.2.1⟩)
      simp (disch := omega) only [V231, B231_0, t, xcI_some, xcV_some, if_pos, if_neg, xg_in, wr_of, if_true, if_false, or_true, true_or]
  · subst g
    refine .same h (μ 140 6) ?_ fun ν hν => ?_
    · simp (disch := omega) only [V158, B158_0, B158_1, B158_2, B158_3, B158_4, B158_5, B158_6, B158_7, B158_8, B158_9, B158_10, B158_11, B158_12, B158_13, B158_14, B158_15, B158_16, B158_17, B158_18, B158_19, B158_20, B158_21, B158_22, V119, B119_0, n6.2.2, xcI_some, xcV_some, if_pos, if_neg, xg_in, wr_of, if_true, if_false, or_true, true_or]
    · simp (disch := omega) only [V231, B231_0, B231_5, up2_ne, hν, xcI_some, xcV_some, if_pos, if_neg, xg_in, wr_of, if_true, if_false, or_true, true_or]
  · subst g
    refine .same h (μ 140 7) ?_ fun ν hν => ?_
    · simp (disch := omega) only [V158, B158_0, B158_1, B158_2, B158_3, B158_4, B158_5, B158_6, B158_7, B158_8, B158_9, B158_10, B158_11, B158_12, B158_13, B158_14, B158_15, B158_16, B158_17, B158_18, B158_19, B158_20, B158_21, B158_22, V23, B23_0, c7, xcI_some, xcV_some, if_pos, if_neg, xg_in, wr_of, if_true, if_false, or_true, true_or]
    · simp (disch := omega) only [V231, B231_0, B231_6, up2_ne, hν, xcI_some, xcV_some, if_pos, if_neg, xg_in, wr_of, if_true, if_false, or_true, true_or]
  · subst g
    refine .same h (μ 140 8) ?_ fun ν hν => ?_
    · simp (disch := omega) only [V158, B158_0, B158_1, B158_2, B158_3, B158_4, B158_5, B158_6, B158_7, B158_8, B158_9, B158_10, B158_11, B158_12, B158_13, B158_14, B158_15, B158_16, B158_17, B158_18, B158_19, B158_20, B158_21, B158_22, V82, B82_0, c8, xcI_some, xcV_some, if_pos, if_neg, xg_in, wr_of, if_true, if_false, or_true, true_or]
    · simp (disch := omega) only [V231, B231_0, B231_7, up2_ne, hν, xcI_some, xcV_some, if_pos, if_neg, xg_in, wr_of, if_true, if_false, or_true, true_or]
  · subst g
    have k := K104 (sc := sc) a8
    refine .mk h (chU (μ 140) (wk (μ 140))).length μ (μ 140) ?_ .rf (fun ν hν => ?_) h.1
    · simp (disch := omega) only [V158, B158_0, B158_1, B158_2, B158_3, B158_4, B158_5, B158_6, B158_7, B158_8, B158_9, B158_10, B158_11, B158_12, B158_13, B158_14, B158_15, B158_16, B158_17, B158_18, B158_19, B158_20, B158_21, B158_22, k, xcI_some, xcV_some, if_pos, if_neg, xg_in, wr_of, if_true, if_false, or_true, true_or]
    · have ν0 : up2 ν 139 3 0 140 = μ 140 := by rw [up2_k (by omega)]; exact hν
      obtain ⟨ν', f1, f2⟩ := m231_8 (sc := sc) ν0 a8 n7.2
      refine ⟨ν', ?_, (f2 140 (by omega)).trans ν0, frM.th.tr (frM_row f2)⟩
      simp (disch := omega) only [V231, B231_0, f1, xcI_some, xcV_some, if_pos, if_neg, xg_in, wr_of, if_true, if_false, or_true, true_or]
  · subst g
    refine .same h (μ 140 9) ?_ fun ν hν => ?_
    · simp (disch := omega) only [V158, B158_0, B158_1, B158_2, B158_3, B158_4, B158_5, B158_6, B158_7, B158_8, B158_9, B158_10, B158_11, B158_12, B158_13, B158_14, B158_15, B158_16, B158_17, B158_18, B158_19, B158_20, B158_21, B158_22, V98, B98_0, n9.2.2, xcI_some, xcV_some, if_pos, if_neg, xg_in, wr_of, if_true, if_false, or_true, true_or]
    · simp (disch := omega) only [V231, B231_0, B231_12, up2_ne, hν, xcI_some, xcV_some, if_pos, if_neg, xg_in, wr_of, if_true, if_false, or_true, true_or]
  · subst g
    refine .same h (μ 140 0) ?_ fun ν hν => ?_
    · simp (disch := omega) only [V158, B158_0, B158_1, B158_2, B158_3, B158_4, B158_5, B158_6, B158_7, B158_8, B158_9, B158_10, B158_11, B158_12, B158_13, B158_14, B158_15, B158_16, B158_17, B158_18, B158_19, B158_20, B158_21, B158_22, V1, B1_0, n0.2.2, xcI_some, xcV_some, if_pos, if_neg, xg_in, wr_of, if_true, if_false, or_true, true_or]
    · simp (disch := omega) only [V231, B231_0, B231_13, up2_ne, hν, xcI_some, xcV_some, if_pos, if_neg, xg_in, wr_of, if_true, if_false, or_true, true_or]
  · subst g
    refine .same h (μ 140 10) ?_ fun ν hν => ?_
    · simp (disch := omega) only [V158, B158_0, B158_1, B158_2, B158_3, B158_4, B158_5, B158_6, B158_7, B158_8, B158_9, B158_10, B158_11, B158_12, B158_13, B158_14, B158_15, B158_16, B158_17, B158_18, B158_19, B158_20, B158_21, B158_22, V89, B89_0, c10, xcI_some, xcV_some, if_pos, if_neg, xg_in, wr_of, if_true, if_false, or_true, true_or]
    · simp (disch := omega) only [V231, B231_0, B231_14, up2_ne, hν, xcI_some, xcV_some, if_pos, if_neg, xg_in, wr_of, if_true, if_false, or_true, true_or]
  · subst g
    refine .same h (μ 140 1) ?_ fun ν hν => ?_
    · simp (disch := omega) only [V158, B158_0, B158_1, B158_2, B158_3, B158_4, B158_5, B158_6, B158_7, B158_8, B158_9, B158_10, B158_11, B158_12, B158_13, B158_14, B158_15, B158_16, B158_17, B158_18, B158_19, B158_20, B158_21, B158_22, V2, B2_0, n1.2.2, xcI_some, xcV_some, if_pos, if_neg, xg_in, wr_of, if_true, if_false, or_true, true_or]
    · simp (disch := omega) only [V231, B231_0, B231_15, up2_ne, hν, xcI_some, xcV_some, if_pos, if_neg, xg_in, wr_of, if_true, if_false, or_true, true_or]
  · subst g
    refine .same h (μ 140 11) ?_ fun ν hν => ?_
    · simp (disch := omega) only [V158, B158_0, B158_1, B158_2, B158_3, B158_4, B158_5, B158_6, B158_7, B158_8, B158_9, B158_10, B158_11, B158_12, B158_13, B158_14, B158_15, B158_16, B158_17, B158_18, B158_19, B158_20, B158_21, B158_22, V120, B120_0, a1.2.2.1.1, xcI_some, xcV_some, if_pos, if_neg, xg_in, wr_of, if_true, if_false, or_true, true_or]
    · simp (disch := omega) only [V231, B231_0, B231_16, up2_ne, hν, xcI_some, xcV_some, if_pos, if_neg, xg_in, wr_of, if_true, if_false, or_true, true_or]
  · refine .same h (-2) ?_ fun ν hν => ?_
    · simp (disch := omega) only [V158, B158_0, B158_22, xcI_some, xcV_some, if_pos, if_neg, xg_in, wr_of, if_true, if_false, or_true, true_or]
    · simp (disch := omega) only [V231, B231_0, B231_17, xcI_some, xcV_some, if_pos, if_neg, xg_in, wr_of, if_true, if_false, or_true, true_or]
/-! about -/
theorem K44 (h : yA μ m) {c : Int} (c0 : 0 ≤ c) (c1 : c < m 7) : EV sc 44 [vR 6, vI c] (SK, μ) = some (some (vI (bI (fre m c))), (SK, μ)) := by
  have h7 := h.2.1
  have g := (h.2.2.2 c c0 c1).1
  by_cases h1 : m (41724 + c).toNat = 1
  · by_cases h2 : m (41604 + c).toNat = 3
    · by_cases h3 : m (42024 + c).toNat = 1
      · rw [bI_t (show fre m c from ⟨h1, Or.inr h3⟩)]
        simp (disch := omega) only [V44, B44_0, B44_1, B44_2, B44_3, B44_4, B44_5, B44_6, G_7, G_9, G_11, G_13, G_15, G_17, G_19, G_21, G_24, G_26, G_28, G_30, G_32, G_34, G_36, G_39, G_42, G_44, G_46, G_48, G_50, G_52, G_55, G_57, G_60, G_62, G_64, G_66, G_68, gt_in, g.1, g.2.1, g.2.2.2.2.2.2.1, h1, h2, h3, xcI_some, xcV_some, if_pos, if_neg, xg_in, wr_of, if_true, if_false, or_true, true_or]
      · rw [bI_f (show ¬ fre m c from fun x => x.2.elim (fun y => y h2) h3)]
        simp (disch := omega) only [V44, B44_0, B44_1, B44_2, B44_3, B44_4, B44_5, B44_6, G_7, G_9, G_11, G_13, G_15, G_17, G_19, G_21, G_24, G_26, G_28, G_30, G_32, G_34, G_36, G_39, G_42, G_44, G_46, G_48, G_50, G_52, G_55, G_57, G_60, G_62, G_64, G_66, G_68, gt_in, g.1, g.2.1, g.2.2.2.2.2.2.1, h1, h2, xcI_some, xcV_some, if_pos, if_neg, xg_in, wr_of, if_true, if_false, or_true, true_or]
    · rw [bI_t (show fre m c from ⟨h1, Or.inl h2⟩)]
      simp (disch := omega) only [V44, B44_0, B44_1, B44_2, B44_3, B44_4, B44_5, B44_6, G_7, G_9, G_11, G_13, G_15, G_17, G_19, G_21, G_24, G_26, G_28, G_30, G_32, G_34, G_36, G_39, G_42, G_44, G_46, G_48, G_50, G_52, G_55, G_57, G_60, G_62, G_64, G_66, G_68, gt_in, g.1, g.2.1, g.2.2.2.2.2.2.1, h1, xcI_some, xcV_some, if_pos, if_neg, xg_in, wr_of, if_true, if_false, or_true, true_or]
  · rw [bI_f (show ¬ fre m c from fun x => h1 x.1)]
    simp (disch := omega) only [V44, B44_0, B44_1, B44_2, B44_3, B44_4, B44_5, B44_6, G_7, G_9, G_11, G_13, G_15, G_17, G_19, G_21, G_24, G_26, G_28, G_30, G_32, G_34, G_36, G_39, G_42, G_44, G_46, G_48, G_50, G_52, G_55, G_57, G_60, G_62, G_64, G_66, G_68, gt_in, g.2.1, xcI_some, xcV_some, if_pos, if_neg, xg_in, wr_of, if_true, if_false, or_true, true_or]
theorem m204 (hν : ν 140 = m) {c : Int} (c0 : 0 ≤ c) (c1 : c < 60) : EV sc 204 [vR 139, vI c] (SK, ν) = some (some (vI (bI (fre m c))), (SK, ν)) := by
  by_cases h1 : m (41724 + c).toNat = 1
  · by_cases h2 : m (41604 + c).toNat = 3
    · by_cases h3 : m (42024 + c).toNat = 1
      · rw [bI_t (show fre m c from ⟨h1, Or.inr h3⟩)]
        simp (disch := omega) only [V204, B204_0, B204_1, B204_2, B204_3, hν, h1, h2, h3, xcI_some, xcV_some, if_pos, if_neg, xg_in, wr_of, if_true, if_false, or_true, true_or]
      · rw [bI_f (show ¬ fre m c from fun x => x.2.elim (fun y => y h2) h3)]
        simp (disch := omega) only [V204, B204_0, B204_1, B204_2, B204_3, hν, h1, h2, xcI_some, xcV_some, if_pos, if_neg, xg_in, wr_of, if_true, if_false, or_true, true_or]
    · rw [bI_t (show fre m c from ⟨h1, Or.inl h2⟩)]
      simp (disch := omega) only [V204, B204_0, B204_1, B204_2, B204_3, hν, h1, xcI_some, xcV_some, if_pos, if_neg, xg_in, wr_of, if_true, if_false, or_true, true_or]
  · rw [bI_f (show ¬ fre m c from fun x => h1 x.1)]
    simp (disch := omega) only [V204, B204_0, B204_1, B204_2, B204_3, hν, xcI_some, xcV_some, if_pos, if_neg, xg_in, wr_of, if_true, if_false, or_true, true_or]
theorem K65 (h : yA μ m) {c : Int} (c0 : 0 ≤ c) (c1 : c < m 7) : EV sc 65 [vR 1, vI c] (SK, μ) = some (some (vI (bI (rdy m c))), (SK, μ)) := by
  have k := K44 (sc := sc) h c0 c1
  have g4 := (h.2.2.2 c c0 c1).2.2.2
  by_cases h1 : fre m c
  · rw [bI_t h1] at k
    by_cases h2 : m (41964 + c).toNat = -1
    · rw [bI_t (show rdy m c from ⟨h1, Or.inl h2⟩)]
      simp (disch := omega) only [V65, B65_0, B65_1, B65_2, B65_3, B65_4, B65_5, B65_6, q34 h c0 c1, k, h2, xcI_some, xcV_some, if_pos, if_neg, xg_in, wr_of, if_true, if_false, or_true, true_or]
    · have g5 : 0 ≤ m (41964 + c).toNat ∧ m (41964 + c).toNat < m 7 := by omega
      have k2 := K44 (sc := sc) h g5.1 g5.2
      by_cases h3 : fre m (m (41964 + c).toNat)
      · rw [bI_t h3] at k2
        rw [bI_t (show rdy m c from ⟨h1, Or.inr h3⟩)]
        simp (disch := omega) only [V65, B65_0, B65_1, B65_2, B65_3, B65_4, B65_5, B65_6, q34 h c0 c1, k, k2, xcI_some, xcV_some, if_pos, if_neg, xg_in, wr_of, if_true, if_false, or_true, true_or]
      · rw [bI_f h3] at k2
        rw [bI_f (show ¬ rdy m c from fun x => x.2.elim h2 h3)]
        simp (disch := omega) only [V65, B65_0, B65_1, B65_2, B65_3, B65_4, B65_5, B65_6, q34 h c0 c1, k, k2, xcI_some, xcV_some, if_pos, if_neg, xg_in, wr_of, if_true, if_false, or_true, true_or]
  · rw [bI_f h1] at k
    rw [bI_f (show ¬ rdy m c from fun x => h1 x.1)]
    simp (disch := omega) only [V65, B65_0, B65_1, B65_2, B65_3, B65_4, B65_5, B65_6, q34 h c0 c1, k, xcI_some, xcV_some, if_pos, if_neg, xg_in, wr_of, if_true, if_false, or_true, true_or]
theorem m205 {C : xM} (hν : ν 140 = m) (h : yA C m) {c : Int} (c0 : 0 ≤ c) (c1 : c < m 7) : EV sc 205 [vR 139, vI c] (SK, ν) = some (some (vI (bI (rdy m c))), (SK, ν)) := by
  have h7 := h.2.1
  have k := m204 (sc := sc) hν c0 (by omega)
  have g4 := (h.2.2.2 c c0 c1).2.2.2
  by_cases h1 : fre m c
  · rw [bI_t h1] at k
    by_cases h2 : m (41964 + c).toNat = -1
    · rw [bI_t (show rdy m c from ⟨h1, Or.inl h2⟩)]
      simp (disch := omega) only [V205, B205_0, B205_1, B205_2, B205_3, B205_4, B205_5, hν, k, h2, xcI_some, xcV_some, if_pos, if_neg, xg_in, wr_of, if_true, if_false, or_true, true_or]
    · have g5 : 0 ≤ m (41964 + c).toNat ∧ m (41964 + c).toNat < m 7 := by omega
      have k2 := m204 (sc := sc) hν g5.1 (by omega)
      by_cases h3 : fre m (m (41964 + c).toNat)
      · rw [bI_t h3] at k2
        rw [bI_t (show rdy m c from ⟨h1, Or.inr h3⟩)]
        simp (disch := omega) only [V205, B205_0, B205_1, B205_2, B205_3, B205_4, B205_5, hν, k, k2, xcI_some, xcV_some, if_pos, if_neg, xg_in, wr_of, if_true, if_false, or_true, true_or]
      · rw [bI_f h3] at k2
        rw [bI_f (show ¬ rdy m c from fun x => x.2.elim h2 h3)]
        simp (disch := omega) only [V205, B205_0, B205_1, B205_2, B205_3, B205_4, B205_5, hν, k, k2, xcI_some, xcV_some, if_pos, if_neg, xg_in, wr_of, if_true, if_false, or_true, true_or]
  · rw [bI_f h1] at k
    rw [bI_f (show ¬ rdy m c from fun x => h1 x.1)]
    simp (disch := omega) only [V205, B205_0, B205_1, B205_2, B205_3, B205_4, B205_5, hν, k, xcI_some, xcV_some, if_pos, if_neg, xg_in, wr_of, if_true, if_false, or_true, true_or]
theorem m222 {C : xM} (hν : ν 140 = m) (h : yP C m) (h7 : m 7 ≤ 60) {c : Int} : ∃ ν' : xM, EV sc 222 [vR 139, vI c] (SK, ν) = some (some (vI (bI (c ∈ chU m (wk m)))), (SK, ν')) ∧ (∀ k, k ≠ 143 → ν' k = ν k) := by
  have h9 := h.1
  have inner : ∀ (L : List Int) (r : Int) (ν1 : xM), isL (ν1 143) L → L.length ≤ 16 → ∀ (k j : Nat) (i : Int) (Q : Prop), i = j → j + k = L.length → AT sc 222 3 [vR 139, vI c, vI (bI Q), vI r, vI L.length, vI i] [] (SK, ν1) = AT sc 222 7 [vR 139, vI c, vI (bI (Q ∨ c ∈ L.drop j)), vI r, vN, vN] [] (SK, ν1) := by
    intro L r ν1 hL h16 k
    induction k with
    | zero =>
      intro j i Q hi e
      rw [B222_3, List.drop_eq_nil_of_le (by omega), bI_iff (show (Q ∨ c ∈ ([] : List Int)) ↔ Q from ⟨fun x => x.elim id (fun y => absurd y List.not_mem_nil), Or.inl⟩)]
      simp (disch := omega) only [xcI_some, xcV_some, if_pos, if_neg, xg_in, wr_of, if_true, if_false, or_true, true_or]
    | succ k ih =>
      intro j i Q hi e
      obtain ⟨a, ha, hd⟩ := drop_cons (l := L) (i := j) (by omega)
      have hv : ν1 143 i.toNat = a := by rw [show i.toNat = j by omega]; exact hL j a ha
      rw [hd, B222_3]
      by_cases hQ : Q
      · have ih1 := ih (j + 1) (i + 1) True (by omega) (by omega)
        rw [bI_t trivial, bI_t (Or.inl trivial)] at ih1
        rw [bI_t hQ, bI_t (Or.inl hQ)]
        simp (disch := omega) only [B222_4, B222_6, ih1, xcI_some, xcV_some, if_pos, if_neg, xg_in, wr_of, if_true, if_false, or_true, true_or]
      · by_cases ea : a = c
        · have ih1 := ih (j + 1) (i + 1) True (by omega) (by omega)
          rw [bI_t trivial, bI_t (Or.inl trivial)] at ih1
          rw [bI_f hQ, bI_t (Or.inr (List.mem_cons.mpr (Or.inl ea.symm)))]
          simp (disch := omega) only [hv, B222_4, B222_6, ih1, xcI_some, xcV_some, if_pos, if_neg, xg_in, wr_of, if_true, if_false, or_true, true_or]
        · have ih1 := ih (j + 1) (i + 1) Q (by omega) (by omega)
          rw [bI_f hQ] at ih1
          rw [bI_f hQ, bI_iff (show (Q ∨ c ∈ a :: L.drop (j + 1)) ↔ (Q ∨ c ∈ L.drop (j + 1)) from ⟨fun x => x.elim Or.inl (fun y => (List.mem_cons.mp y).elim (fun z => absurd z.symm ea) Or.inr), fun x => x.elim Or.inl (fun y => Or.inr (List.mem_cons_of_mem _ y))⟩)]
          simp (disch := omega) only [hv, B222_5, B222_6, ih1, xcI_some, xcV_some, if_pos, if_neg, xg_in, wr_of, if_true, if_false, or_true, true_or]
  have l : ∀ (k j : Nat) (i : Int) (ν1 : xM), i = j → j + k = (m 9).toNat → ν1 140 = m → ∃ ν' : xM, AT sc 222 1 [vR 139, vI c, vI (bI (c ∈ chU m (allU m j))), vI i, vN, vN] [] (SK, ν1) = some (some (vI (bI (c ∈ chU m (wk m)))), (SK, ν')) ∧ (∀ k, k ≠ 143 → ν' k = ν1 k) := by
    intro k
    induction k with
    | zero =>
      intro j i ν1 hi e h1
      refine ⟨ν1, ?_, fun _ _ => rfl⟩
      rw [B222_1]
      simp (disch := omega) only [h1, B222_8, xcI_some, xcV_some, if_pos, if_neg, xg_in, wr_of, if_true, if_false, or_true, true_or]
      unfold wk
      rw [show j = (m 9).toNat by omega]
      exact if_pos (by rcases bI_01 (P := c ∈ chU m (allU m (m 9).toNat)) with g | g <;> omega)
    | succ k ih =>
      intro j i ν1 hi e h1
      have gr := yP_r h (r := j) (by omega)
      obtain ⟨ν2, e1, e2, e3⟩ := m219 (sc := sc) h1 (r := j) (by omega) (by omega) gr.2.1 (fun u hu => by have := gr.2.2 u hu; omega)
      have hlen := chU_len (m := m) (rowU m j)
      rw [rowU_len] at hlen
      obtain ⟨ν', f1, f2⟩ := ih (j + 1) (i + 1) ν2 (by omega) (by omega) (by rw [e3 140 (by omega)]; exact h1)
      have g := inner (chU m (rowU m j)) i ν2 e2 (by omega) (chU m (rowU m j)).length 0 0 (c ∈ chU m (allU m j)) rfl (by omega)
      rw [List.drop_zero, bI_iff (show (c ∈ chU m (allU m j) ∨ c ∈ chU m (rowU m j)) ↔ c ∈ chU m (allU m (j + 1)) by rw [allU_s, chU_app, List.mem_append]; exact Or.comm)] at g
      refine ⟨ν', ?_, fun k hk => (f2 k hk).trans (e3 k hk)⟩
      subst hi
      rw [B222_1]
      simp (disch := omega) only [h1, e1, B222_2, g, B222_7, f1, xcI_some, xcV_some, if_pos, if_neg, xg_in, wr_of, if_true, if_false, or_true, true_or]
  obtain ⟨ν', f1, f2⟩ := l (m 9).toNat 0 0 ν rfl (by omega) hν
  rw [bI_f (show ¬ c ∈ chU m (allU m 0) from List.not_mem_nil)] at f1
  exact ⟨ν', by rw [V222, B222_0, f1], f2⟩
theorem op_about (h : yAll μ) {c w : Int} : yOp sc 149 223 [vI c, vI w] μ := by
  obtain ⟨⟨a1, a2, a3, a4, a5, a6, a7, a8, a9, a10, a11⟩, hk⟩ := id h
  have n6 := a1.1
  have n3 := a1.2.1
  have n5 := a2.2
  have n10 : 0 ≤ μ 140 10 ∧ μ 140 10 ≤ 600 := ⟨a3.1, a3.2.1⟩
  have n7 : 0 ≤ μ 140 7 ∧ μ 140 7 ≤ 60 := ⟨a4.1, a4.2.1⟩
  have n0 : 0 ≤ μ 140 0 ∧ μ 140 0 ≤ 60 ∧ μ 2 3 = μ 140 0 := a6.1
  have n1 : 0 ≤ μ 140 1 ∧ μ 140 1 ≤ 1152 ∧ μ 2 4 = μ 140 1 := a6.2.1
  have n8 : 0 ≤ μ 140 8 ∧ μ 140 8 ≤ 60 := ⟨a7.1, a7.2.1⟩
  have n9 := a8.1
  have c7 := a4.2.2.1
  have c8 := a7.2.2.1
  have c10 := a3.2.2.1
  by_cases hc : 0 ≤ c ∧ c < μ 140 7
  · by_cases hw : 0 ≤ w ∧ w ≤ 5
    · rcases (show w = 0 ∨ w = 1 ∨ w = 2 ∨ w = 3 ∨ w = 4 ∨ w = 5 by omega) with g | g | g | g | g | g <;> subst g
      · refine .same h (μ 140 (41604 + c).toNat) ?_ fun ν hν => ?_
        · simp (disch := omega) only [V149, B149_0, B149_1, B149_2, B149_3, B149_4, B149_5, B149_6, B149_7, B149_8, B149_9, B149_10, B149_11, B149_12, B149_13, B149_14, B149_15, cChange_t, q26 a4 hc.1 hc.2, xcI_some, xcV_some, if_pos, if_neg, xg_in, wr_of, if_true, if_false, or_true, true_or]
        · simp (disch := omega) only [V223, B223_0, B223_1, B223_2, B223_3, B223_4, B223_5, B223_6, B223_7, B223_8, B223_9, B223_10, B223_11, B223_12, B223_13, B223_14, B223_15, B223_16, mChange_t' (congrFun hν 7), in_t, up2_ne, hν, xcI_some, xcV_some, if_pos, if_neg, xg_in, wr_of, if_true, if_false, or_true, true_or]
      · by_cases hs : μ 140 (41724 + c).toNat = 1
        · have k1 := K108 (sc := sc) a8 hc.1
          have k2 := K65 (sc := sc) a4 hc.1 hc.2
          refine .mk h (if bI (c ∈ chU (μ 140) (wk (μ 140))) = 0 then (if bI (rdy (μ 140) c) = 0 then 2 else 1) else 3) μ (μ 140) ?_ .rf (fun ν hν => ?_) h.1
          · simp (disch := omega) only [V149, B149_0, B149_1, B149_2, B149_3, B149_4, B149_5, B149_6, B149_7, B149_8, B149_9, B149_10, B149_11, B149_12, B149_13, B149_14, B149_15, cChange_t, B63_0, B63_1, B63_2, V63, q27 a4 hc.1 hc.2, hs, k1, xcI_some, xcV_some, if_pos, if_neg, xg_in, wr_of, if_true, if_false, or_true, true_or]
            by_cases t1 : bI (c ∈ chU (μ 140) (wk (μ 140))) = 0
            · by_cases t2 : bI (rdy (μ 140) c) = 0
              · simp (disch := omega) only [V63, B63_0, B63_1, B63_2, B63_3, B63_4, B63_5, B63_6, B63_7, t1, k2, t2, xcI_some, xcV_some, if_pos, if_neg, xg_in, wr_of, if_true, if_false, or_true, true_or, B149_6]
              · simp (disch := omega) only [V63, B63_0, B63_1, B63_2, B63_3, B63_4, B63_5, B63_6, B63_7, t1, k2, t2, xcI_some, xcV_some, if_pos, if_neg, xg_in, wr_of, if_true, if_false, or_true, true_or, B149_6]
            · simp (disch := omega) only [V63, B63_0, B63_1, B63_2, B63_3, B63_4, B63_5, B63_6, B63_7, t1, xcI_some, xcV_some, if_pos, if_neg, xg_in, wr_of, if_true, if_false, or_true, true_or, B149_6]
          · have ν0 : up2 ν 139 3 0 140 = μ 140 := by rw [up2_k (by omega)]; exact hν
            obtain ⟨ν', f1, f2⟩ := m222 (sc := sc) (c := c) ν0 a8 n7.2
            have ν1 : ν' 140 = μ 140 := (f2 140 (by omega)).trans ν0
            have k3 := m205 (sc := sc) ν1 a4 hc.1 hc.2
            refine ⟨ν', ?_, ν1, frM.th.tr (frM_row f2)⟩
            simp (disch := omega) only [V223, B223_0, B223_1, B223_2, B223_4, B223_5, mChange_t' (congrFun hν 7), in_t, up2_ne, hν, hs, f1, xcI_some, xcV_some, if_pos, if_neg, xg_in, wr_of, if_true, if_false, or_true, true_or]
            by_cases t1 : bI (c ∈ chU (μ 140) (wk (μ 140))) = 0
            · by_cases t2 : bI (rdy (μ 140) c) = 0
              · simp (disch := omega) only [V223, B223_0, B223_1, B223_2, B223_3, B223_4, B223_5, B223_6, B223_7, B223_8, B223_9, B223_10, B223_11, B223_12, B223_13, B223_14, B223_15, B223_16, t1, k3, t2, xcI_some, xcV_some, if_pos, if_neg, xg_in, wr_of, if_true, if_false, or_true, true_or]
              · simp (disch := omega) only [V223, B223_0, B223_1, B223_2, B223_3, B223_4, B223_5, B223_6, B223_7, B223_8, B223_9, B223_10, B223_11, B223_12, B223_13, B223_14, B223_15, B223_16, t1, k3, t2, xcI_some, xcV_some, if_pos, if_neg, xg_in, wr_of, if_true, if_false, or_true, true_or]
            · simp (disch := omega) only [V223, B223_0, B223_1, B223_2, B223_3, B223_4, B223_5, B223_6, B223_7, B223_8, B223_9, B223_10, B223_11, B223_12, B223_13, B223_14, B223_15, B223_16, t1, xcI_some, xcV_some, if_pos, if_neg, xg_in, wr_of, if_true, if_false, or_true, true_or]
        · refine .same h (μ 140 (41724 + c).toNat) ?_ fun ν hν => ?_
          · simp (disch := omega) only [V149, B149_0, B149_1, B149_2, B149_3, B149_4, B149_5, B149_6, B149_7, B149_8, B149_9, B149_10, B149_11, B149_12, B149_13, B149_14, B149_15, V63, B63_0, B63_1, B63_2, B63_3, B63_4, B63_5, B63_6, B63_7, cChange_t, q27 a4 hc.1 hc.2, xcI_some, xcV_some, if_pos, if_neg, xg_in, wr_of, if_true, if_false, or_true, true_or]
          · simp (disch := omega) only [V223, B223_0, B223_1, B223_2, B223_3, B223_4, B223_5, B223_6, B223_7, B223_8, B223_9, B223_10, B223_11, B223_12, B223_13, B223_14, B223_15, B223_16, mChange_t' (congrFun hν 7), in_t, up2_ne, hν, xcI_some, xcV_some, if_pos, if_neg, xg_in, wr_of, if_true, if_false, or_true, true_or]
      · refine .same h (μ 140 (41784 + c).toNat) ?_ fun ν hν => ?_
        · simp (disch := omega) only [V149, B149_0, B149_1, B149_2, B149_3, B149_4, B149_5, B149_6, B149_7, B149_8, B149_9, B149_10, B149_11, B149_12, B149_13, B149_14, B149_15, cChange_t, q29 a4 hc.1 hc.2, xcI_some, xcV_some, if_pos, if_neg, xg_in, wr_of, if_true, if_false, or_true, true_or]
        · simp (disch := omega) only [V223, B223_0, B223_1, B223_2, B223_3, B223_4, B223_5, B223_6, B223_7, B223_8, B223_9, B223_10, B223_11, B223_12, B223_13, B223_14, B223_15, B223_16, mChange_t' (congrFun hν 7), in_t, up2_ne, hν, xcI_some, xcV_some, if_pos, if_neg, xg_in, wr_of, if_true, if_false, or_true, true_or]
      · refine .same h (μ 140 (41844 + c).toNat) ?_ fun ν hν => ?_
        · simp (disch := omega) only [V149, B149_0, B149_1, B149_2, B149_3, B149_4, B149_5, B149_6, B149_7, B149_8, B149_9, B149_10, B149_11, B149_12, B149_13, B149_14, B149_15, cChange_t, q31 a4 hc.1 hc.2, xcI_some, xcV_some, if_pos, if_neg, xg_in, wr_of, if_true, if_false, or_true, true_or]
        · simp (disch := omega) only [V223, B223_0, B223_1, B223_2, B223_3, B223_4, B223_5, B223_6, B223_7, B223_8, B223_9, B223_10, B223_11, B223_12, B223_13, B223_14, B223_15, B223_16, mChange_t' (congrFun hν 7), in_t, up2_ne, hν, xcI_some, xcV_some, if_pos, if_neg, xg_in, wr_of, if_true, if_false, or_true, true_or]
      · refine .same h (μ 140 (41904 + c).toNat) ?_ fun ν hν => ?_
        · simp (disch := omega) only [V149, B149_0, B149_1, B149_2, B149_3, B149_4, B149_5, B149_6, B149_7, B149_8, B149_9, B149_10, B149_11, B149_12, B149_13, B149_14, B149_15, cChange_t, q33 a4 hc.1 hc.2, xcI_some, xcV_some, if_pos, if_neg, xg_in, wr_of, if_true, if_false, or_true, true_or]
        · simp (disch := omega) only [V223, B223_0, B223_1, B223_2, B223_3, B223_4, B223_5, B223_6, B223_7, B223_8, B223_9, B223_10, B223_11, B223_12, B223_13, B223_14, B223_15, B223_16, mChange_t' (congrFun hν 7), in_t, up2_ne, hν, xcI_some, xcV_some, if_pos, if_neg, xg_in, wr_of, if_true, if_false, or_true, true_or]
      · refine .same h (μ 140 (41964 + c).toNat) ?_ fun ν hν => ?_
        · simp (disch := omega) only [V149, B149_0, B149_1, B149_2, B149_3, B149_4, B149_5, B149_6, B149_7, B149_8, B149_9, B149_10, B149_11, B149_12, B149_13, B149_14, B149_15, cChange_t, q34 a4 hc.1 hc.2, xcI_some, xcV_some, if_pos, if_neg, xg_in, wr_of, if_true, if_false, or_true, true_or]
        · simp (disch := omega) only [V223, B223_0, B223_1, B223_2, B223_3, B223_4, B223_5, B223_6, B223_7, B223_8, B223_9, B223_10, B223_11, B223_12, B223_13, B223_14, B223_15, B223_16, mChange_t' (congrFun hν 7), in_t, up2_ne, hν, xcI_some, xcV_some, if_pos, if_neg, xg_in, wr_of, if_true, if_false, or_true, true_or]
    · refine .same h (-2) ?_ fun ν hν => ?_
      · simp (disch := omega) only [V149, B149_0, B149_1, B149_2, B149_15, cChange_t, xcI_some, xcV_some, if_pos, if_neg, xg_in, wr_of, if_true, if_false, or_true, true_or]
      · simp (disch := omega) only [V223, B223_0, B223_1, B223_2, B223_3, B223_4, B223_5, B223_6, B223_7, B223_8, B223_9, B223_10, B223_11, B223_12, B223_13, B223_14, B223_15, B223_16, mChange_t' (congrFun hν 7), in_f, up2_ne, hν, xcI_some, xcV_some, if_pos, if_neg, xg_in, wr_of, if_true, if_false, or_true, true_or]
  · refine .same h (-2) ?_ fun ν hν => ?_
    · simp (disch := omega) only [V149, B149_0, B149_1, B149_2, B149_3, B149_4, B149_5, B149_6, B149_7, B149_8, B149_9, B149_10, B149_11, B149_12, B149_13, B149_14, B149_15, cChange_f, xcI_some, xcV_some, if_pos, if_neg, xg_in, wr_of, if_true, if_false, or_true, true_or]
    · simp (disch := omega) only [V223, B223_0, B223_1, B223_2, B223_3, B223_4, B223_5, B223_6, B223_7, B223_8, B223_9, B223_10, B223_11, B223_12, B223_13, B223_14, B223_15, B223_16, mChange_f' (congrFun hν 7), xcI_some, xcV_some, if_pos, if_neg, xg_in, wr_of, if_true, if_false, or_true, true_or]
end

/-! lines in slots and states; line, at -/
/-- the name that a value gives (1000) or asks for (2000) -/
def nm (v b : Int) : Int := if 0 ≤ v - b ∧ v - b ≤ 31 then v - b else -1
section
variable {sc : Nat × (Nat → Int)} {μ : xM}
theorem K5 {s f : Int} (s0 : 0 ≤ s) (s1 : s < 63) (f0 : 0 ≤ f) (f1 : f < 8) : EV sc 5 [vR 2, vI s, vI f] (SK, μ) = some (some (vI (μ 4 (s * 8 + f).toNat)), (SK, μ)) := by
  simp (disch := omega) only [V5, B5_0, B5_1, B5_2, xcI_some, xcV_some, if_pos, if_neg, xg_in, wr_of, if_true, if_false, or_true, true_or]
theorem K7_in {s f i : Int} (s0 : 0 ≤ s) (s1 : s < 63) (f0 : 0 ≤ f) (f1 : f < 8) (i0 : 0 ≤ i) (i1 : i < 24) (i2 : i < μ 4 (s * 8 + f).toNat) : EV sc 7 [vR 2, vI s, vI f, vI i] (SK, μ) = some (some (vI (μ 3 ((s * 8 + f) * 24 + i).toNat)), (SK, μ)) := by
  simp (disch := omega) only [V7, B7_0, B7_1, B7_2, B7_3, B7_4, xcI_some, xcV_some, if_pos, if_neg, xg_in, wr_of, if_true, if_false, or_true, true_or]
theorem K7_out {s f i : Int} (s0 : 0 ≤ s) (s1 : s < 63) (f0 : 0 ≤ f) (f1 : f < 8) (i2 : i < 0 ∨ 24 ≤ i ∨ μ 4 (s * 8 + f).toNat ≤ i) : EV sc 7 [vR 2, vI s, vI f, vI i] (SK, μ) = some (some (vI 0), (SK, μ)) := by
  by_cases h0 : i < 0
  · simp (disch := omega) only [V7, B7_0, B7_1, B7_2, B7_3, B7_4, xcI_some, xcV_some, if_pos, if_neg, xg_in, wr_of, if_true, if_false, or_true, true_or]
  · by_cases h1 : 24 ≤ i
    · simp (disch := omega) only [V7, B7_0, B7_1, B7_2, B7_3, B7_4, xcI_some, xcV_some, if_pos, if_neg, xg_in, wr_of, if_true, if_false, or_true, true_or]
    · simp (disch := omega) only [V7, B7_0, B7_1, B7_2, B7_3, B7_4, xcI_some, xcV_some, if_pos, if_neg, xg_in, wr_of, if_true, if_false, or_true, true_or]
theorem K8 {x : Int} (h0 : 1 ≤ x) (h1 : x ≤ 1152) : EV sc 8 [vR 2, vI x] (SK, μ) = some (some (vI (μ 5 x.toNat)), (SK, μ)) := by
  simp (disch := omega) only [V8, B8_0, B8_1, B8_2, xcI_some, xcV_some, if_pos, if_neg, xg_in, wr_of, if_true, if_false, or_true, true_or]
theorem K9 {x : Int} (h0 : 1 ≤ x) (h1 : x ≤ 1152) (h2 : 0 ≤ μ 5 x.toNat) (h3 : μ 5 x.toNat ≤ 9999) : EV sc 9 [vR 2, vI x] (SK, μ) = some (some (vI (nm (μ 5 x.toNat) 1000)), (SK, μ)) := by
  unfold nm
  by_cases h : 0 ≤ μ 5 x.toNat - 1000 ∧ μ 5 x.toNat - 1000 ≤ 31
  · rw [if_pos h]
    simp (disch := omega) only [V9, B9_0, B9_1, B9_2, B9_3, B9_4, xcI_some, xcV_some, if_pos, if_neg, xg_in, wr_of, if_true, if_false, or_true, true_or]
  · rw [if_neg h]
    by_cases h4 : μ 5 x.toNat - 1000 < 0
    · simp (disch := omega) only [V9, B9_0, B9_1, B9_2, B9_3, B9_4, xcI_some, xcV_some, if_pos, if_neg, xg_in, wr_of, if_true, if_false, or_true, true_or]
    · simp (disch := omega) only [V9, B9_0, B9_1, B9_2, B9_3, B9_4, xcI_some, xcV_some, if_pos, if_neg, xg_in, wr_of, if_true, if_false, or_true, true_or]
theorem K10 {x : Int} (h0 : 1 ≤ x) (h1 : x ≤ 1152) (h2 : 0 ≤ μ 5 x.toNat) (h3 : μ 5 x.toNat ≤ 9999) : EV sc 10 [vR 2, vI x] (SK, μ) = some (some (vI (nm (μ 5 x.toNat) 2000)), (SK, μ)) := by
  unfold nm
  by_cases h : 0 ≤ μ 5 x.toNat - 2000 ∧ μ 5 x.toNat - 2000 ≤ 31
  · rw [if_pos h]
    simp (disch := omega) only [V10, B10_0, B10_1, B10_2, B10_3, K8 h0 h1, xcI_some, xcV_some, if_pos, if_neg, xg_in, wr_of, if_true, if_false, or_true, true_or]
  · rw [if_neg h]
    by_cases h4 : μ 5 x.toNat - 2000 < 0
    · simp (disch := omega) only [V10, B10_0, B10_1, B10_2, B10_3, K8 h0 h1, xcI_some, xcV_some, if_pos, if_neg, xg_in, wr_of, if_true, if_false, or_true, true_or]
    · simp (disch := omega) only [V10, B10_0, B10_1, B10_2, B10_3, K8 h0 h1, xcI_some, xcV_some, if_pos, if_neg, xg_in, wr_of, if_true, if_false, or_true, true_or]
theorem K12 {s f i v : Int} (s0 : 0 ≤ s) (s1 : s < 63) (f0 : 0 ≤ f) (f1 : f < 8) (i0 : 0 ≤ i) (i1 : i < 24) : EV sc 12 [vR 2, vI s, vI f, vI i, vI v] (SK, μ) = some (none, (SK, up2 μ 3 ((s * 8 + f) * 24 + i).toNat v)) := by
  simp (disch := omega) only [V12, B12_0, B12_1, B12_2, xcI_some, xcV_some, if_pos, if_neg, xg_in, wr_of, if_true, if_false, or_true, true_or]
theorem K13 {s f p t q n : Int} (s0 : 0 ≤ s) (s1 : s < 63) (f0 : 0 ≤ f) (f1 : f < 8) (hn : μ 4 (s * 8 + f).toNat = n) (n1 : n ≤ 24) (p0 : 0 ≤ p) (t0 : 0 ≤ t) (q0 : 0 ≤ q) (q6 : q ≤ 24) (h1 : p + t ≤ n) (h2 : n - t + q ≤ 24) :
    EV sc 13 [vR 2, vI s, vI f, vI p, vI t, vI q] (SK, μ) = some (none, (SK, up2 (cp2 μ 3 ((s * 8 + f) * 24 + p + t).toNat 3 ((s * 8 + f) * 24 + p + q).toNat (n - p - t).toNat) 4 (s * 8 + f).toNat (p + q + (n - p - t)))) := by
  simp (disch := omega) only [V13, B13_0, B13_1, B13_2, B13_3, B13_4, B13_5, B13_6, B13_7, B13_8, B13_9, B13_10, B13_11, hn, isIn_t, xcI_some, xcV_some, if_pos, if_neg, xg_in, wr_of, if_true, if_false, or_true, true_or]
theorem K14 {s t : Int} (s0 : 0 ≤ s) (s1 : s < 63) (t0 : 0 ≤ t) (t1 : t < 63) : EV sc 14 [vR 2, vI s, vI t] (SK, μ) = some (none, (SK, cp2 (cp2 μ 4 (s * 8).toNat 4 (t * 8).toNat 8) 3 (s * 8 * 24).toNat 3 (t * 8 * 24).toNat 192)) := by
  simp (disch := omega) only [V14, B14_0, B14_1, B14_2, B14_3, B14_4, isIn_t, xcI_some, xcV_some, if_pos, if_neg, xg_in, wr_of, if_true, if_false, or_true, true_or]
theorem K3 {v : Int} (h0 : 0 ≤ μ 2 4) (h1 : μ 2 4 < 1152) : EV sc 3 [vR 2, vI v] (SK, μ) = some (some (vI (μ 2 4 + 1)), (SK, up2 (up2 μ 2 4 (μ 2 4 + 1)) 5 (μ 2 4 + 1).toNat v)) := by
  simp (disch := omega) only [V3, B3_0, B3_1, up2_eq, up2_ne, xcI_some, xcV_some, if_pos, if_neg, xg_in, wr_of, if_true, if_false, or_true, true_or]
theorem m166 {s f : Int} (s0 : 0 ≤ s) (s1 : s < 64) (f0 : 0 ≤ f) (f1 : f < 8) : EV sc 166 [vR 139, vI s, vI f] (SK, μ) = some (some (vI (μ 140 (12 + 8 * s + f).toNat)), (SK, μ)) := by
  simp (disch := omega) only [V166, B166_0, xcI_some, xcV_some, if_pos, if_neg, xg_in, wr_of, if_true, if_false, or_true, true_or]
theorem m167 {s f i : Int} (s0 : 0 ≤ s) (s1 : s < 64) (f0 : 0 ≤ f) (f1 : f < 8) (i0 : -100 ≤ i) (i1 : i < 100) : EV sc 167 [vI s, vI f, vI i] (SK, μ) = some (some (vI (320 * s + 40 * f + i)), (SK, μ)) := by
  simp (disch := omega) only [V167, B167_0, xcI_some, xcV_some, if_pos, if_neg, xg_in, wr_of, if_true, if_false, or_true, true_or]
theorem m176 {v b : Int} (h0 : 0 ≤ v) (h1 : v ≤ 9999) (hb : b = 1000 ∨ b = 2000) : EV sc 176 [vI v, vI b] (SK, μ) = some (some (vI (nm v b)), (SK, μ)) := by
  unfold nm
  by_cases h : 0 ≤ v - b ∧ v - b ≤ 31
  · rw [if_pos h]
    simp (disch := omega) only [V176, B176_0, B176_1, B176_2, B176_3, in_t, xcI_some, xcV_some, if_pos, if_neg, xg_in, wr_of, if_true, if_false, or_true, true_or]
  · rw [if_neg h]
    simp (disch := omega) only [V176, B176_0, B176_1, B176_2, B176_3, in_f, xcI_some, xcV_some, if_pos, if_neg, xg_in, wr_of, if_true, if_false, or_true, true_or]
theorem k162_t {C : xM} {x : Int} (h0 : 0 ≤ x) (h1 : x ≤ μ 2 3) : EV sc 162 [vR 0, vI x] (SK, μ) = some (some (vI 1), (SK, μ)) := by
  simp (disch := omega) only [V162, B162_0, B162_1, B162_2, B162_3, V1, B1_0, xcI_some, xcV_some, if_pos, if_neg, xg_in, wr_of, if_true, if_false, or_true, true_or]
theorem k162_f {x : Int} (h : x < 0 ∨ μ 2 3 < x) : EV sc 162 [vR 0, vI x] (SK, μ) = some (some (vI 0), (SK, μ)) := by
  by_cases h0 : x < 0
  · simp (disch := omega) only [V162, B162_0, B162_1, B162_2, B162_3, V1, B1_0, xcI_some, xcV_some, if_pos, if_neg, xg_in, wr_of, if_true, if_false, or_true, true_or]
  · simp (disch := omega) only [V162, B162_0, B162_1, B162_2, B162_3, V1, B1_0, xcI_some, xcV_some, if_pos, if_neg, xg_in, wr_of, if_true, if_false, or_true, true_or]
/-- one file's cells -/
def dF (s f : Int) (k i : Nat) : Prop := (k = 4 ∧ (i : Int) = s * 8 + f) ∨ (k = 3 ∧ (s * 8 + f) * 24 ≤ i ∧ (i : Int) < (s * 8 + f) * 24 + 24)
def aF (s f : Int) (i : Nat) : Prop := (i : Int) = 12 + 8 * s + f ∨ (524 + (320 * s + 40 * f) ≤ i ∧ (i : Int) < 524 + (320 * s + 40 * f) + 40) ∨ (21004 + (320 * s + 40 * f) ≤ i ∧ (i : Int) < 21004 + (320 * s + 40 * f) + 40)
theorem yFf_fr {C C' : xM} {m m' : Nat → Int} {s s' f : Int} (h : yF C m s s' f) (hC : ∀ k i, dF s f k i → C' k i = C k i) (hv : ∀ i : Nat, 1 ≤ i → i ≤ (m 1).toNat → C' 5 i = C 5 i) (h1 : m 1 ≤ m' 1) (hm : ∀ i, aF s' f i → m' i = m i) (hs : 0 ≤ s) (hs' : 0 ≤ s') (hf : 0 ≤ f) : yF C' m' s s' f := by
  unfold yF at h ⊢
  rw [hm (12 + 8 * s' + f).toNat (by unfold aF; omega), hC 4 (s * 8 + f).toNat (by unfold dF; omega)]
  refine ⟨h.1, h.2.1, h.2.2.1, fun i h0 hi => ?_⟩
  have h24 := h.2.2.1
  have h2 := h.2.2.2 i h0 hi
  rw [hC 3 ((s * 8 + f) * 24 + i).toNat (by unfold dF; omega), hm (21004 + (320 * s' + 40 * f + i)).toNat (by unfold aF; omega), hm (524 + (320 * s' + 40 * f + i)).toNat (by unfold aF; omega), hv (m (21004 + (320 * s' + 40 * f + i)).toNat).toNat (by omega) (by omega)]
  exact ⟨h2.1, h2.2.1, by omega, h2.2.2.2⟩
theorem op_at (h : yAll μ) {s f i w : Int} : yOp sc 152 171 [vI s, vI f, vI i, vI w] μ := by
  obtain ⟨⟨a1, a2, a3, a4, a5, a6, a7, a8, a9, a10, a11⟩, hk⟩ := id h
  have n6 := a1.1
  have n3 := a1.2.1
  have n5 := a2.2
  have n10 : 0 ≤ μ 140 10 ∧ μ 140 10 ≤ 600 := ⟨a3.1, a3.2.1⟩
  have n7 : 0 ≤ μ 140 7 ∧ μ 140 7 ≤ 60 := ⟨a4.1, a4.2.1⟩
  have n0 : 0 ≤ μ 140 0 ∧ μ 140 0 ≤ 60 ∧ μ 2 3 = μ 140 0 := a6.1
  have n1 : 0 ≤ μ 140 1 ∧ μ 140 1 ≤ 1152 ∧ μ 2 4 = μ 140 1 := a6.2.1
  have n8 : 0 ≤ μ 140 8 ∧ μ 140 8 ≤ 60 := ⟨a7.1, a7.2.1⟩
  have n9 := a8.1
  have c7 := a4.2.2.1
  have c8 := a7.2.2.1
  have c10 := a3.2.2.1
  by_cases hs : 0 ≤ s ∧ s ≤ μ 140 0
  · by_cases hf : 0 ≤ f ∧ f < 8
    · by_cases hw : 0 ≤ w ∧ w < 2
      · have g := a6.2.2 s f hs.1 hs.2 hf.1 hf.2
        obtain ⟨g1, g2, g3, g4⟩ := g
        by_cases hi : 0 ≤ i ∧ i < μ 140 (12 + 8 * s + f).toNat
        · have g5 := g4 i hi.1 hi.2
          rcases (show w = 0 ∨ w = 1 by omega) with e | e <;> subst e
          · refine .same h (μ 140 (524 + (320 * s + 40 * f + i)).toNat) ?_ fun ν hν => ?_
            · simp (disch := omega) only [V152, B152_0, B152_1, B152_2, B152_3, B152_4, B152_5, B152_6, B152_7, B152_8, B152_9, B152_10, B152_11, k162_t (C := μ), isIn_t, K5, K7_in, K8, g1, g5.1, g5.2.2.2.1, xcI_some, xcV_some, if_pos, if_neg, xg_in, wr_of, if_true, if_false, or_true, true_or]
            · simp (disch := omega) only [V171, B171_0, B171_1, B171_2, B171_3, B171_4, B171_5, B171_6, B171_7, B171_8, B171_9, B171_10, B171_11, B171_12, in_t, isFile_t, m166, m167, up2_ne, hν, xcI_some, xcV_some, if_pos, if_neg, xg_in, wr_of, if_true, if_false, or_true, true_or]
          · refine .same h (μ 140 (21004 + (320 * s + 40 * f + i)).toNat) ?_ fun ν hν => ?_
            · simp (disch := omega) only [V152, B152_0, B152_1, B152_2, B152_3, B152_4, B152_5, B152_6, B152_7, B152_8, B152_9, B152_10, B152_11, k162_t (C := μ), isIn_t, K5, K7_in, g1, g5.1, xcI_some, xcV_some, if_pos, if_neg, xg_in, wr_of, if_true, if_false, or_true, true_or]
            · simp (disch := omega) only [V171, B171_0, B171_1, B171_2, B171_3, B171_4, B171_5, B171_6, B171_7, B171_8, B171_9, B171_10, B171_11, B171_12, in_t, isFile_t, m166, m167, up2_ne, hν, xcI_some, xcV_some, if_pos, if_neg, xg_in, wr_of, if_true, if_false, or_true, true_or]
        · refine .same h (-1) ?_ fun ν hν => ?_
          · simp (disch := omega) only [V152, B152_0, B152_1, B152_2, B152_3, B152_4, B152_5, B152_6, B152_7, B152_8, B152_9, B152_10, B152_11, k162_t (C := μ), isIn_t, isIn_f, K5, g1, xcI_some, xcV_some, if_pos, if_neg, xg_in, wr_of, if_true, if_false, or_true, true_or]
          · simp (disch := omega) only [V171, B171_0, B171_1, B171_2, B171_3, B171_4, B171_5, B171_6, B171_7, B171_8, B171_9, B171_10, B171_11, B171_12, in_t, in_f, isFile_t, m166, m167, up2_ne, hν, xcI_some, xcV_some, if_pos, if_neg, xg_in, wr_of, if_true, if_false, or_true, true_or]
      · refine .same h (-2) ?_ fun ν hν => ?_
        · simp (disch := omega) only [V152, B152_0, B152_1, B152_2, B152_3, B152_4, B152_5, B152_6, B152_7, B152_8, B152_9, B152_10, B152_11, k162_t (C := μ), isIn_t, isIn_f, xcI_some, xcV_some, if_pos, if_neg, xg_in, wr_of, if_true, if_false, or_true, true_or]
        · simp (disch := omega) only [V171, B171_0, B171_1, B171_2, B171_3, B171_4, B171_5, B171_6, B171_7, B171_8, B171_9, B171_10, B171_11, B171_12, in_t, in_f, isFile_t, up2_ne, hν, xcI_some, xcV_some, if_pos, if_neg, xg_in, wr_of, if_true, if_false, or_true, true_or]
    · refine .same h (-2) ?_ fun ν hν => ?_
      · simp (disch := omega) only [V152, B152_0, B152_1, B152_2, B152_3, B152_4, B152_5, B152_6, B152_7, B152_8, B152_9, B152_10, B152_11, k162_t (C := μ), isIn_f, xcI_some, xcV_some, if_pos, if_neg, xg_in, wr_of, if_true, if_false, or_true, true_or]
      · simp (disch := omega) only [V171, B171_0, B171_1, B171_2, B171_3, B171_4, B171_5, B171_6, B171_7, B171_8, B171_9, B171_10, B171_11, B171_12, in_t, isFile_f, up2_ne, hν, xcI_some, xcV_some, if_pos, if_neg, xg_in, wr_of, if_true, if_false, or_true, true_or]
  · refine .same h (-2) ?_ fun ν hν => ?_
    · simp (disch := omega) only [V152, B152_0, B152_1, B152_2, B152_3, B152_4, B152_5, B152_6, B152_7, B152_8, B152_9, B152_10, B152_11, k162_f, xcI_some, xcV_some, if_pos, if_neg, xg_in, wr_of, if_true, if_false, or_true, true_or]
    · simp (disch := omega) only [V171, B171_0, B171_1, B171_2, B171_3, B171_4, B171_5, B171_6, B171_7, B171_8, B171_9, B171_10, B171_11, B171_12, in_f, up2_ne, hν, xcI_some, xcV_some, if_pos, if_neg, xg_in, wr_of, if_true, if_false, or_true, true_or]
end

/-! keep and go back: what is copied -/
def inL (b : Nat) (L : List (Nat × Nat × Nat)) (k i : Nat) : Prop := ∃ e ∈ L, k = e.1 + b ∧ e.2.1 ≤ i ∧ i < e.2.2 ∧ 1 ≤ e.1 ∧ e.1 ≤ 69
noncomputable def ptl (a b : Nat) (L : List (Nat × Nat × Nat)) (μ : xM) : xM := fun k i => @ite Int (inL b L k i) (Classical.propDecidable _) (μ (k + a - b) i) (μ k i)
theorem ptl_in {a b : Nat} {L : List (Nat × Nat × Nat)} {μ : xM} {k i : Nat} (h : inL b L k i) : ptl a b L μ k i = μ (k + a - b) i := if_pos h
theorem ptl_out {a b : Nat} {L : List (Nat × Nat × Nat)} {μ : xM} {k i : Nat} (h : ¬ inL b L k i) : ptl a b L μ k i = μ k i := if_neg h
theorem inL_bd {b : Nat} {L : List (Nat × Nat × Nat)} {k i : Nat} (h : inL b L k i) : b + 1 ≤ k ∧ k ≤ 69 + b := by
  obtain ⟨e, h1, h2, h3, h4, h5, h6⟩ := h
  omega
theorem inL_cons {b : Nat} {L : List (Nat × Nat × Nat)} {k0 lo hi k i : Nat} : inL b ((k0, lo, hi) :: L) k i ↔ (k = k0 + b ∧ lo ≤ i ∧ i < hi ∧ 1 ≤ k0 ∧ k0 ≤ 69) ∨ inL b L k i := by
  constructor
  · rintro ⟨e, h1, h2⟩
    rcases List.mem_cons.mp h1 with x | x
    · subst x
      exact Or.inl h2
    · exact Or.inr ⟨e, x, h2⟩
  · rintro (h | ⟨e, h1, h2⟩)
    · exact ⟨(k0, lo, hi), List.mem_cons_self, h⟩
    · exact ⟨e, List.mem_cons_of_mem _ h1, h2⟩
theorem ptl_nil {a b : Nat} {μ : xM} : ptl a b [] μ = μ := by
  funext k i
  exact ptl_out fun ⟨e, h, _⟩ => by simp at h
theorem ptl_cp {a b : Nat} {L : List (Nat × Nat × Nat)} {μ : xM} {k s d n : Nat} (hab : (a = 0 ∧ b = 69) ∨ (a = 69 ∧ b = 0)) (hs : s = k + a) (hd : d = k + b) (h1 : 1 ≤ k) (h2 : k ≤ 69) : cp2 (ptl a b L μ) s 0 d 0 n = ptl a b ((k, 0, n) :: L) μ := by
  funext k' i'
  by_cases x : k' = d ∧ i' < n
  · obtain ⟨rfl, x2⟩ := x
    rw [cp2_in rfl (by omega) (by omega), ptl_in (inL_cons.mpr (Or.inl ⟨hd, by omega, x2, h1, h2⟩)), ptl_out (fun y => by have := inL_bd y; omega), show s = k' + a - b by omega, show 0 + (i' - 0) = i' by omega]
  · rw [cp2_out (by omega)]
    by_cases y : inL b L k' i'
    · rw [ptl_in y, ptl_in (inL_cons.mpr (Or.inr y))]
    · rw [ptl_out y, ptl_out fun z => by
        rcases inL_cons.mp z with z | z
        · omega
        · exact y z]
theorem ptl_up {a b : Nat} {L : List (Nat × Nat × Nat)} {μ : xM} {k s d i : Nat} (hab : (a = 0 ∧ b = 69) ∨ (a = 69 ∧ b = 0)) (hs : s = k + a) (hd : d = k + b) (h1 : 1 ≤ k) (h2 : k ≤ 69) : up2 (ptl a b L μ) d i (ptl a b L μ s i) = ptl a b ((k, i, i + 1) :: L) μ := by
  funext k' i'
  by_cases x : k' = d ∧ i' = i
  · obtain ⟨rfl, rfl⟩ := x
    rw [up2_eq, ptl_in (inL_cons.mpr (Or.inl ⟨hd, by omega, by omega, h1, h2⟩)), ptl_out (fun y => by have := inL_bd y; omega), show s = k' + a - b by omega]
  · rw [up2_ne (by omega)]
    by_cases y : inL b L k' i'
    · rw [ptl_in y, ptl_in (inL_cons.mpr (Or.inr y))]
    · rw [ptl_out y, ptl_out fun z => by
        rcases inL_cons.mp z with z | z
        · omega
        · exact y z]
theorem cpK {L : List (Nat × Nat × Nat)} {μ : xM} {k d n : Nat} (hd : d = k + 69) (h1 : 1 ≤ k) (h2 : k ≤ 69) : cp2 (ptl 0 69 L μ) k 0 d 0 n = ptl 0 69 ((k, 0, n) :: L) μ := ptl_cp (by omega) (by omega) (by omega) h1 h2
theorem cpB {L : List (Nat × Nat × Nat)} {μ : xM} {s d n : Nat} (hd : s = d + 69) (h1 : 1 ≤ d) (h2 : d ≤ 69) : cp2 (ptl 69 0 L μ) s 0 d 0 n = ptl 69 0 ((d, 0, n) :: L) μ := ptl_cp (by omega) (by omega) (by omega) h1 h2
theorem upK {L : List (Nat × Nat × Nat)} {μ : xM} {k d i : Nat} (hd : d = k + 69) (h1 : 1 ≤ k) (h2 : k ≤ 69) : up2 (ptl 0 69 L μ) d i (ptl 0 69 L μ k i) = ptl 0 69 ((k, i, i + 1) :: L) μ := ptl_up (by omega) (by omega) (by omega) h1 h2
theorem upB {L : List (Nat × Nat × Nat)} {μ : xM} {s d i : Nat} (hd : s = d + 69) (h1 : 1 ≤ d) (h2 : d ≤ 69) : up2 (ptl 69 0 L μ) d i (ptl 69 0 L μ s i) = ptl 69 0 ((d, i, i + 1) :: L) μ := ptl_up (by omega) (by omega) (by omega) h1 h2
def LST : List (Nat × Nat × Nat) := [(1, 6, 7), (54, 2, 3), (58, 0, 2400), (56, 0, 2400), (41, 7, 8), (41, 6, 7), (53, 0, 8), (51, 0, 8), (49, 0, 8), (47, 0, 8), (45, 0, 8), (43, 0, 8), (38, 1, 2), (40, 0, 60), (6, 9, 10), (37, 0, 1464), (35, 0, 1464), (33, 0, 244), (31, 0, 244), (29, 0, 244), (27, 0, 244), (25, 0, 244), (22, 0, 61), (20, 0, 61), (18, 0, 61), (16, 0, 61), (14, 0, 61), (12, 0, 61), (10, 0, 61), (8, 0, 61), (59, 9, 10), (59, 8, 9), (59, 7, 8), (59, 6, 7), (59, 5, 6), (69, 0, 24), (67, 0, 24), (65, 0, 24), (63, 0, 24), (61, 0, 24), (2, 4, 5), (2, 3, 4), (5, 0, 1153), (4, 0, 504), (3, 0, 12096)]
theorem LST_bd : ∀ e ∈ LST, 1 ≤ e.1 ∧ e.1 ≤ 69 := by decide
theorem LST_in {b k lo hi i : Nat} (h : (k, lo, hi) ∈ LST) (h0 : lo ≤ i) (h1 : i < hi) : inL b LST (k + b) i := ⟨(k, lo, hi), h, rfl, h0, h1, (LST_bd _ h).1, (LST_bd _ h).2⟩
section
variable {sc : Nat × (Nat → Int)} {μ : xM}
theorem keepE : EV sc 80 [vR 70, vR 1] (SK, μ) = some (none, (SK, ptl 0 69 LST μ)) := by
  conv => lhs; rw [← ptl_nil (a := 0) (b := 69) (μ := μ)]
  simp (disch := omega) only [V80_70_1, B80_70_1_0, B80_70_1_1, B80_70_1_2, B80_70_1_3, B80_70_1_4, B80_70_1_5, B80_70_1_6, V16_71_2, B16_71_2_0, V131_128_59, B131_128_59_0, B131_128_59_1, B131_128_59_2, B131_128_59_3, B131_128_59_4, B131_128_59_5, V49_75_6, B49_75_6_0, B49_75_6_1, B49_75_6_2, B49_75_6_3, B49_75_6_4, B49_75_6_5, B49_75_6_6, B49_75_6_7, B49_75_6_8, B49_75_6_9, V60_92_23, B60_92_23_0, B60_92_23_1, B60_92_23_2, B60_92_23_3, B60_92_23_4, B60_92_23_5, B60_92_23_6, B60_92_23_7, V87_107_38, B87_107_38_0, B87_107_38_1, V117_110_41, B117_110_41_0, B117_110_41_1, B117_110_41_2, B117_110_41_3, B117_110_41_4, B117_110_41_5, B117_110_41_6, V96_123_54, B96_123_54_0, B96_123_54_1, B96_123_54_2, K_76_7, K_78_9, K_80_11, K_82_13, K_84_15, K_86_17, K_88_19, K_90_21, K_93_24, K_95_26, K_97_28, K_99_30, K_101_32, K_103_34, K_105_36, K_108_39, K_111_42, K_113_44, K_115_46, K_117_48, K_119_50, K_121_52, K_124_55, K_126_57, K_129_60, K_131_62, K_133_64, K_135_66, K_137_68, cpK, upK, xcV_some, if_pos]
  rfl
theorem backE : EV sc 80 [vR 1, vR 70] (SK, μ) = some (none, (SK, ptl 69 0 LST μ)) := by
  conv => lhs; rw [← ptl_nil (a := 69) (b := 0) (μ := μ)]
  simp (disch := omega) only [V80_1_70, B80_1_70_0, B80_1_70_1, B80_1_70_2, B80_1_70_3, B80_1_70_4, B80_1_70_5, B80_1_70_6, V16_2_71, B16_2_71_0, V131_59_128, B131_59_128_0, B131_59_128_1, B131_59_128_2, B131_59_128_3, B131_59_128_4, B131_59_128_5, V49_6_75, B49_6_75_0, B49_6_75_1, B49_6_75_2, B49_6_75_3, B49_6_75_4, B49_6_75_5, B49_6_75_6, B49_6_75_7, B49_6_75_8, B49_6_75_9, V60_23_92, B60_23_92_0, B60_23_92_1, B60_23_92_2, B60_23_92_3, B60_23_92_4, B60_23_92_5, B60_23_92_6, B60_23_92_7, V87_38_107, B87_38_107_0, B87_38_107_1, V117_41_110, B117_41_110_0, B117_41_110_1, B117_41_110_2, B117_41_110_3, B117_41_110_4, B117_41_110_5, B117_41_110_6, V96_54_123, B96_54_123_0, B96_54_123_1, B96_54_123_2, K_7_76, K_9_78, K_11_80, K_13_82, K_15_84, K_17_86, K_19_88, K_21_90, K_24_93, K_26_95, K_28_97, K_30_99, K_32_101, K_34_103, K_36_105, K_39_108, K_42_111, K_44_113, K_46_115, K_48_117, K_50_119, K_52_121, K_55_124, K_57_126, K_60_129, K_62_131, K_64_133, K_66_135, K_68_137, cpB, upB, xcV_some, if_pos]
  rfl
theorem keep_in {k lo hi i : Nat} (h : (k, lo, hi) ∈ LST) (h0 : lo ≤ i) (h1 : i < hi) : ptl 0 69 LST μ (k + 69) i = μ k i := by
  rw [ptl_in (LST_in h h0 h1), show k + 69 + 0 - 69 = k by omega]
theorem back_in {k lo hi i : Nat} (h : (k, lo, hi) ∈ LST) (h0 : lo ≤ i) (h1 : i < hi) : ptl 69 0 LST μ k i = μ (k + 69) i := by
  have g := LST_in (b := 0) h h0 h1
  rw [Nat.add_zero] at g
  rw [ptl_in g, show k + 69 - 0 = k + 69 by omega]
theorem keep_out {k : Nat} (h : k < 70 ∨ 139 ≤ k) : ptl 0 69 LST μ k = μ k := by
  funext i
  exact ptl_out fun y => by have := inL_bd y; omega
theorem back_out {k : Nat} (h : k = 0 ∨ 70 ≤ k) : ptl 69 0 LST μ k = μ k := by
  funext i
  exact ptl_out fun y => by have := inL_bd y; omega
theorem yK_dom {C C' : xM} {m m' : Nat → Int} (h : yK C m) (eC : ∀ k lo hi i : Nat, (k, lo, hi) ∈ LST → lo ≤ i → i < hi → C' k i = C k i) (e : ∀ i : Nat, i < 54096 → m' i = m i) : yK C' m' := by
  obtain ⟨a1, a2, a3, a4, a5, a6, a7, a8, a9, a10, a11⟩ := h
  have n7 : 0 ≤ m 7 ∧ m 7 ≤ 60 := ⟨a4.1, a4.2.1⟩
  have n0 : 0 ≤ m 0 ∧ m 0 ≤ 60 ∧ C 2 3 = m 0 := a6.1
  have n1 : 0 ≤ m 1 ∧ m 1 ≤ 1152 ∧ C 2 4 = m 1 := a6.2.1
  have e5 : ∀ i : Nat, 1 ≤ i → i ≤ (m 1).toNat → C' 5 i = C 5 i := fun i i0 i1 => eC 5 0 1153 i (by decide) (by omega) (by omega)
  refine ⟨yT_fr a1 (fun k i hk => ?_) (fun i hi => e i (by unfold aT at hi; omega)), yL_fr a2 (eC 1 6 7 6 (by decide) (by omega) (by omega)) (e 5 (by omega)), yG_fr a3 (fun k i hk => ?_) (fun i hi => e i (by omega)), yA_fr a4 (fun k i hk => ?_) (fun i hi => e i (by unfold aA at hi; omega)), yE_fr a5 a4 (fun k i hk => ?_) e5 (by rw [e 1 (by omega)]; exact Int.le_refl _) (fun i hi => e i (by unfold aE at hi; omega)),
    yB_fr a6 ⟨eC 2 3 4 3 (by decide) (by omega) (by omega), eC 2 4 5 4 (by decide) (by omega) (by omega)⟩ ⟨e 0 (by omega), e 1 (by omega)⟩ (fun s _ _ k i hk => ?_) e5 (fun s _ _ i hi => e i (by unfold aS at hi; omega)), yW_fr a7 ⟨a4.1, a4.2.1⟩ (fun k i hk => ?_) (fun i hi => e i (by omega)), yP_fr a8 (by rw [e 7 (by omega)]; exact Int.le_refl _) (fun k i hk => ?_) (fun i hi => e i (by omega)) (fun u u0 u1 _ => e (41964 + u).toNat (by omega)) (fun u u0 u1 h => by rw [e (41724 + u).toNat (by omega)]; exact h),
    yO_fr a9 a4 a6 a5 ⟨e 0 (by omega), e 7 (by omega)⟩ (fun s _ _ i hi => e i (by unfold aS at hi; omega)) (fun i hi => e i (by omega)), yM_fr a10 a4 (fun i hi => e i (by omega)), yN_fr a11 a4 (fun i hi => e i (by omega)) (fun u u0 u1 h => by rw [e (41724 + u).toNat (by omega)]; exact h) (fun u u0 u1 h => by rw [e (41724 + u).toNat (by omega)] at h; exact h)⟩
  · unfold dT at hk
    rcases hk with ⟨rfl, h5, h9⟩ | ⟨hk, hi⟩
    · rcases (show i = 5 ∨ i = 6 ∨ i = 7 ∨ i = 8 ∨ i = 9 by omega) with rfl | rfl | rfl | rfl | rfl
      · exact eC 59 5 6 5 (by decide) (by omega) (by omega)
      · exact eC 59 6 7 6 (by decide) (by omega) (by omega)
      · exact eC 59 7 8 7 (by decide) (by omega) (by omega)
      · exact eC 59 8 9 8 (by decide) (by omega) (by omega)
      · exact eC 59 9 10 9 (by decide) (by omega) (by omega)
    · rcases hk with rfl | rfl | rfl | rfl | rfl <;> exact eC _ 0 24 i (by decide) (by omega) hi
  · rcases hk with ⟨rfl, rfl⟩ | ⟨hk, hi⟩
    · exact eC 54 2 3 2 (by decide) (by omega) (by omega)
    · rcases hk with rfl | rfl <;> exact eC _ 0 2400 i (by decide) (by omega) hi
  · unfold dA at hk
    rcases hk with ⟨rfl, rfl⟩ | ⟨hk, hi⟩
    · exact eC 6 9 10 9 (by decide) (by omega) (by omega)
    · rcases hk with rfl | rfl | rfl | rfl | rfl | rfl | rfl | rfl <;> exact eC _ 0 61 i (by decide) (by omega) (by omega)
  · unfold dE at hk
    rcases hk with ⟨hk, hi⟩ | ⟨hk, hi⟩
    · rcases hk with rfl | rfl | rfl | rfl | rfl <;> exact eC _ 0 244 i (by decide) (by omega) (by omega)
    · rcases hk with rfl | rfl <;> exact eC _ 0 1464 i (by decide) (by omega) (by omega)
  · unfold dS at hk
    rcases hk with ⟨rfl, h1, h2⟩ | ⟨rfl, h1, h2⟩
    · exact eC 4 0 504 i (by decide) (by omega) (by omega)
    · exact eC 3 0 12096 i (by decide) (by omega) (by omega)
  · rcases hk with ⟨rfl, rfl⟩ | ⟨rfl, hi⟩
    · exact eC 38 1 2 1 (by decide) (by omega) (by omega)
    · exact eC 40 0 60 i (by decide) (by omega) hi
  · rcases hk with ⟨rfl, hk⟩ | ⟨hk, hi⟩
    · rcases hk with rfl | rfl
      · exact eC 41 6 7 6 (by decide) (by omega) (by omega)
      · exact eC 41 7 8 7 (by decide) (by omega) (by omega)
    · rcases hk with rfl | rfl | rfl | rfl | rfl | rfl <;> exact eC _ 0 8 i (by decide) (by omega) hi
theorem cp2_step2 {μ : xM} {a d j i : Nat} {v : Int} (had : a ≠ d) (hi : i = j) (hv : v = μ a j) : up2 (cp2 μ a 0 d 0 j) d i v = cp2 μ a 0 d 0 (j + 1) := by
  funext k' i'
  by_cases e : k' = d
  · subst e
    by_cases e2 : i' = i
    · subst e2
      rw [up2_eq, cp2_in rfl (by omega) (by omega), hv, hi, show 0 + (j - 0) = j by omega]
    · rw [up2_ne (by omega)]
      by_cases h : i' < j
      · rw [cp2_in rfl (by omega) (by omega), cp2_in rfl (by omega) (by omega)]
      · rw [cp2_out (by omega), cp2_out (by omega)]
  · rw [up2_ne (by omega), cp2_out (by omega), cp2_out (by omega)]
theorem m229 : ∀ (k j : Nat) (x : Int), x = j → j + k = 54096 → AT sc 229 1 [vR 139, vI x] [] (SK, cp2 μ 140 0 141 0 j) = some (some (vI 1), (SK, cp2 μ 140 0 141 0 54096)) := by
  intro k
  induction k with
  | zero =>
    intro j x hx e
    rw [B229_1]
    simp (disch := omega) only [B229_2, xcI_some, xcV_some, if_pos, if_neg, xg_in, wr_of, if_true, if_false, or_true, true_or]
    rw [show j = 54096 by omega]
  | succ k ih =>
    intro j x hx e
    have ih1 := ih (j + 1) (x + 1) (by omega) (by omega)
    have us : up2 (cp2 μ 140 0 141 0 j) 141 x.toNat (μ 140 x.toNat) = cp2 μ 140 0 141 0 (j + 1) := cp2_step2 (by omega) (by omega) (by rw [show x.toNat = j by omega])
    rw [B229_1]
    simp (disch := omega) only [cp2_out, us, ih1, xcI_some, xcV_some, if_pos, if_neg, xg_in, wr_of, if_true, if_false, or_true, true_or]
theorem m230 : ∀ (k j : Nat) (x : Int), x = j → j + k = 54096 → AT sc 230 2 [vR 139, vI x] [] (SK, cp2 μ 141 0 140 0 j) = some (some (vI 1), (SK, cp2 μ 141 0 140 0 54096)) := by
  intro k
  induction k with
  | zero =>
    intro j x hx e
    rw [B230_2]
    simp (disch := omega) only [B230_3, xcI_some, xcV_some, if_pos, if_neg, xg_in, wr_of, if_true, if_false, or_true, true_or]
    rw [show j = 54096 by omega]
  | succ k ih =>
    intro j x hx e
    have ih1 := ih (j + 1) (x + 1) (by omega) (by omega)
    have us : up2 (cp2 μ 141 0 140 0 j) 140 x.toNat (μ 141 x.toNat) = cp2 μ 141 0 140 0 (j + 1) := cp2_step2 (by omega) (by omega) (by rw [show x.toNat = j by omega])
    rw [B230_2]
    simp (disch := omega) only [cp2_out, us, ih1, xcI_some, xcV_some, if_pos, if_neg, xg_in, wr_of, if_true, if_false, or_true, true_or]
theorem op_keep (h : yAll μ) : yOp sc 156 229 [] μ := by
  have l := m229 (sc := sc) (μ := up2 (up2 (up2 (ptl 0 69 LST μ) 0 2 1) 139 3 0) 139 2 1) 54096 0 0 rfl (by omega)
  rw [cp2_zero] at l
  refine ⟨1, up2 (ptl 0 69 LST μ) 0 2 1, cp2 (up2 (up2 (up2 (ptl 0 69 LST μ) 0 2 1) 139 3 0) 139 2 1) 140 0 141 0 54096, ?_, ?_, ?_⟩
  · simp (disch := omega) only [V156, B156_0, keepE, B156_1, xcI_some, xcV_some, if_pos, if_neg, xg_in, wr_of, if_true, if_false, or_true, true_or]
  · simp (disch := omega) only [V229, B229_0, l, xcI_some, xcV_some, if_pos, if_neg, xg_in, wr_of, if_true, if_false, or_true, true_or]
  · have low : ∀ k : Nat, 1 ≤ k → k < 70 ∨ k = 140 → cp2 (up2 (up2 (up2 (ptl 0 69 LST μ) 0 2 1) 139 3 0) 139 2 1) 140 0 141 0 54096 k = μ k := fun k k0 k1 => by
      rw [cp2_k (by omega), up2_k (by omega), up2_k (by omega), up2_k (by omega), keep_out (by omega)]
    have hi : ∀ k : Nat, 70 ≤ k → k < 139 → cp2 (up2 (up2 (up2 (ptl 0 69 LST μ) 0 2 1) 139 3 0) 139 2 1) 140 0 141 0 54096 k = ptl 0 69 LST μ k := fun k k0 k1 => by
      rw [cp2_k (by omega), up2_k (by omega), up2_k (by omega), up2_k (by omega)]
    refine ⟨?_, Or.inr ⟨?_, ?_, ?_⟩⟩
    · rw [low 140 (by omega) (by omega)]
      exact yK_fr h.1 fun k i k0 k1 => by rw [low k k0 (by omega)]
    · rw [cp2_k (by omega), up2_k (by omega), up2_k (by omega), up2_eq]
    · rw [cp2_k (by omega), up2_eq]
    · refine yK_dom h.1 (fun k lo hi' i hm h0 h1 => ?_) (fun i i1 => ?_)
      · have bd := LST_bd _ hm
        have bd1 : 1 ≤ k := bd.1
        have bd2 : k ≤ 69 := bd.2
        show cp2 _ 140 0 141 0 54096 (k + 69) i = _
        rw [hi (k + 69) (by omega) (by omega)]
        exact keep_in hm h0 h1
      · rw [cp2_in rfl (by omega) (by omega), show 0 + (i - 0) = i by omega, up2_k (by omega), up2_k (by omega), up2_k (by omega), keep_out (by omega)]
theorem op_back (h : yAll μ) : yOp sc 157 230 [] μ := by
  rcases h.2 with ⟨h1, h2⟩ | ⟨h1, h2, h3⟩
  · refine ⟨-3, μ, up2 μ 139 3 0, ?_, ?_, ?_⟩
    · simp (disch := omega) only [V157, B157_0, h1, xcI_some, xcV_some, if_pos, if_neg, xg_in, wr_of, if_true, if_false, or_true, true_or]
    · have q : up2 μ 139 3 0 139 2 = 0 := by rw [up2_ne (by omega)]; exact h2
      simp (disch := omega) only [V230, B230_0, q, xcI_some, xcV_some, if_pos, if_neg, xg_in, wr_of, if_true, if_false, or_true, true_or]
    · refine ⟨?_, Or.inl ⟨?_, ?_⟩⟩
      · rw [up2_k (by omega)]
        exact yK_fr h.1 fun k i k0 k1 => up2_ne (by omega)
      · rw [up2_k (by omega)]; exact h1
      · rw [up2_ne (by omega)]; exact h2
  · have l := m230 (sc := sc) (μ := up2 (ptl 69 0 LST μ) 139 3 0) 54096 0 0 rfl (by omega)
    rw [cp2_zero] at l
    refine ⟨1, ptl 69 0 LST μ, cp2 (up2 (ptl 69 0 LST μ) 139 3 0) 141 0 140 0 54096, ?_, ?_, ?_⟩
    · simp (disch := omega) only [V157, B157_0, h1, B157_1, backE, B157_2, xcI_some, xcV_some, if_pos, if_neg, xg_in, wr_of, if_true, if_false, or_true, true_or]
    · have q : up2 (ptl 69 0 LST μ) 139 3 0 139 2 = 1 := by rw [up2_ne (by omega), back_out (by omega)]; exact h2
      simp (disch := omega) only [V230, B230_0, q, B230_1, l, xcI_some, xcV_some, if_pos, if_neg, xg_in, wr_of, if_true, if_false, or_true, true_or]
    · have hi : ∀ k : Nat, k = 0 ∨ (70 ≤ k ∧ k ≠ 139 ∧ k ≠ 140) → cp2 (up2 (ptl 69 0 LST μ) 139 3 0) 141 0 140 0 54096 k = μ k := fun k k0 => by
        rw [cp2_k (by omega), up2_k (by omega), back_out (by omega)]
      refine ⟨?_, Or.inr ⟨?_, ?_, ?_⟩⟩
      · refine yK_dom h3 (fun k lo hi' i hm h0 h1 => ?_) (fun i i1 => ?_)
        · have bd := LST_bd _ hm
          have bd1 : 1 ≤ k := bd.1
          have bd2 : k ≤ 69 := bd.2
          rw [cp2_k (by omega), up2_k (by omega)]
          exact back_in hm h0 h1
        · rw [cp2_in rfl (by omega) (by omega), show 0 + (i - 0) = i by omega, up2_k (by omega), back_out (by omega)]
      · rw [hi 0 (by omega)]; exact h1
      · rw [cp2_k (by omega), up2_ne (by omega), back_out (by omega)]; exact h2
      · rw [hi 141 (by omega)]
        exact yK_fr h3 fun k i k0 k1 => by
          show cp2 _ 141 0 140 0 54096 (k + 69) i = μ (k + 69) i
          rw [hi (k + 69) (by omega)]
end

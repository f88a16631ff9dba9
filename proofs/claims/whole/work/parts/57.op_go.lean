/-! go, the whole -/
section
variable {sc : Nat × (Nat → Int)} {C : xM} {m : Nat → Int} {μ : xM}
theorem go_loop (n bg : Int) (n1 : 1 ≤ n) (n10 : n ≤ 10) (bg0 : 0 ≤ bg) (hb : bg + n ≤ 600) : ∀ (N : Nat) (C : xM) (m : Nat → Int) (d s : Int), yK C m → mea m + 40 * (n - d) ≤ N → 0 ≤ d → d ≤ n → m 10 = bg + d → 0 ≤ s → s + N < 1000000 → ∃ (C' : xM) (m' : Nat → Int), AT sc 148 5 [vR 0, vI n, vI d, vI s] [] (SK, C) = some (some (vI (m' 10 - bg)), (SK, C')) ∧
    (∀ ν : xM, ν 140 = m → ∃ ν' : xM, AT sc 221 4 [vR 139, vI n, vI bg, vI 1, vN] [] (SK, ν) = some (some (vI (m' 10 - bg)), (SK, ν')) ∧ ν' 140 = m' ∧ frM ν ν') ∧ frC C C' ∧ yK C' m' := by
  have exit : ∀ (C : xM) (m : Nat → Int) (s : Int), yK C m → m 10 = bg + n → 0 ≤ s → s < 1000000 → ∃ (C' : xM) (m' : Nat → Int), AT sc 148 5 [vR 0, vI n, vI n, vI s] [] (SK, C) = some (some (vI (m' 10 - bg)), (SK, C')) ∧
    (∀ ν : xM, ν 140 = m → ∃ ν' : xM, AT sc 221 4 [vR 139, vI n, vI bg, vI 1, vN] [] (SK, ν) = some (some (vI (m' 10 - bg)), (SK, ν')) ∧ ν' 140 = m' ∧ frM ν ν') ∧ frC C C' ∧ yK C' m' := fun C m s h e s0 s1 => by
    refine ⟨C, m, ?_, fun ν hν => ⟨ν, ?_, hν, .rf⟩, .rf, h⟩
    · have q : m 10 - bg = n := by omega
      rw [q]
      simp (disch := omega) only [B148_5, B148_12, xcI_some, xcV_some, if_pos, if_neg, xg_in, wr_of, if_true, if_false, or_true, true_or]
    · have q : bg + n - bg = n := by omega
      simp (disch := omega) only [B221_4, hν, e, B221_16, xcI_some, xcV_some, if_pos, if_neg, xg_in, wr_of, if_true, if_false, or_true, true_or]
  intro N
  induction N with
  | zero =>
    intro C m d s h hN d0 d1 e s0 s1
    have bd := wk_bd h.2.2.2.2.2.2.2.1
    have ed : d = n := by
      unfold mea at hN
      omega
    subst ed
    exact exit C m s h e s0 (by omega)
  | succ N ih =>
    intro C m d s h hN d0 d1 e s0 s1
    have bd := wk_bd h.2.2.2.2.2.2.2.1
    by_cases ed : d = n
    · subst ed
      exact exit C m s h e s0 (by omega)
    · -- a step, then the others
      have rest : ∀ (C0 : xM) (m0 : Nat → Int) (top : Int), yK C0 m0 → m0 9 = top + 1 → 0 ≤ top → m0 10 = bg + d → frC C C0 → (mea m0 ≤ mea m ∨ (top = 0 ∧ frsh m0)) → AT sc 148 5 [vR 0, vI n, vI d, vI s] [] (SK, C) = xcV (EV sc 73 [vR 1] (SK, C0)) (fun σ => AT sc 148 7 [vR 0, vI n, vI d, vI s] [] σ) → (∀ ν : xM, ν 140 = m → ∃ ν' : xM, AT sc 221 4 [vR 139, vI n, vI bg, vI 1, vN] [] (SK, ν) = AT sc 221 8 [vR 139, vI n, vI bg, vN, vN] [vI 1] (SK, ν') ∧ ν' 140 = m0 ∧ frM ν ν') → ∃ (C' : xM) (m' : Nat → Int), AT sc 148 5 [vR 0, vI n, vI d, vI s] [] (SK, C) = some (some (vI (m' 10 - bg)), (SK, C')) ∧
    (∀ ν : xM, ν 140 = m → ∃ ν' : xM, AT sc 221 4 [vR 139, vI n, vI bg, vI 1, vN] [] (SK, ν) = some (some (vI (m' 10 - bg)), (SK, ν')) ∧ ν' 140 = m' ∧ frM ν ν') ∧ frC C C' ∧ yK C' m' := fun C0 m0 top h0 ht t0 e0 f0 hm hc hM => by
        obtain ⟨r, C1, m1, x1, x2, x3, x4, x5, x6, x7⟩ := step (sc := sc) n bg h0 ht t0 (by omega)
        have bd1 := wk_bd x4.2.2.2.2.2.2.2.1
        have q0 : 0 ≤ mea m := by unfold mea; omega
        have q1 : mea m1 ≤ 24 := by unfold mea; omega
        have key : mea m1 + 40 * (n - (d + r)) ≤ N ∧ (r = 0 ∨ r = 1) := by
          rcases x6 with ⟨y1, y2⟩ | y1
          · rcases hm with y3 | ⟨y3, y4⟩
            · omega
            · have := x7 y3 y4
              omega
          · omega
        obtain ⟨C2, m2, z1, z2, z3, z4⟩ := ih C1 m1 (d + r) (s + 1) x4 key.1 (by omega) (by omega) (by omega) (by omega) (by omega)
        refine ⟨C2, m2, ?_, fun ν hν => ?_, f0.tr (x3.tr z3), z4⟩
        · rw [hc, x1 d s d0 (by omega)]
          simp (disch := omega) only [B148_11, z1, xcI_some, xcV_some, if_pos, if_neg, xg_in, wr_of, if_true, if_false, or_true, true_or]
        · obtain ⟨ν1, v1, v2, v3⟩ := hM ν hν
          obtain ⟨ν2, u1, u2, u3⟩ := x2 ν1 v2
          obtain ⟨ν3, w1, w2, w3⟩ := z2 ν2 u2
          exact ⟨ν3, by rw [v1, u1, B221_15, w1], w2, v3.tr (u3.tr w3)⟩
      have c41 := h.2.2.2.2.2.2.2.1.1.2.2
      have n8 := h.2.2.2.2.2.2.1
      by_cases h9 : m 9 = 0
      · obtain ⟨b, C0, m0, hb, x1, x2, x3, x4, x5, x6, x7⟩ := finds_loop (sc := sc) (m 8).toNat C m 0 h h9 (by have := n8.1; omega) (by omega) (by have := n8.2.1; omega)
        have k67 : EV sc 67 [vR 1] (SK, C) = some (some (vI b), (SK, C0)) := by rw [V67, B67_0, x1]
        have k216 : ∀ ν : xM, ν 140 = m → ∃ ν' : xM, EV sc 216 [vR 139] (SK, ν) = some (some (vI b), (SK, ν')) ∧ ν' 140 = m0 ∧ frM ν ν' := fun ν hν => by
          obtain ⟨ν', v1, v2, v3⟩ := x2 ν hν
          have k211 := m211 (sc := sc) (kd := -1) hν h.2.2.2.1 n8
          rw [fsL_m1] at k211
          refine ⟨ν', ?_, v2, v3⟩
          simp (disch := omega) only [V216, B216_0, k211, B216_1, v1, xcI_some, xcV_some, if_pos, if_neg, xg_in, wr_of, if_true, if_false, or_true, true_or]
        rcases hb with hb | hb
        · subst hb
          refine ⟨C0, m0, ?_, fun ν hν => ?_, x3, x4⟩
          · have q : m0 10 - bg = d := by omega
            rw [q]
            simp (disch := omega) only [B148_5, k67, B148_6, B148_12, xcI_some, xcV_some, if_pos, if_neg, xg_in, wr_of, if_true, if_false, or_true, true_or]
          · obtain ⟨ν', v1, v2, v3⟩ := k216 ν hν
            refine ⟨ν', ?_, v2, v3⟩
            have q10 := x5
            have n10' : 0 ≤ m0 10 ∧ m0 10 ≤ 600 := ⟨x4.2.2.1.1, x4.2.2.1.2.1⟩
            simp (disch := omega) only [B221_4, hν, e, h9, v1, B221_5, B221_7, B221_8, B221_15, v2, B221_16, xcI_some, xcV_some, if_pos, if_neg, xg_in, wr_of, if_true, if_false, or_true, true_or]
        · subst hb
          obtain ⟨y1, y2⟩ := x6 rfl
          refine rest C0 m0 0 x4 y1 (by omega) (by omega) x3 (Or.inr ⟨rfl, y2⟩) ?_ fun ν hν => ?_
          · simp (disch := omega) only [B148_5, k67, B148_6, xcI_some, xcV_some, if_pos, if_neg, xg_in, wr_of, if_true, if_false, or_true, true_or]
          · obtain ⟨ν', v1, v2, v3⟩ := k216 ν hν
            refine ⟨ν', ?_, v2, v3⟩
            simp (disch := omega) only [B221_4, hν, e, h9, v1, B221_5, B221_6, xcI_some, xcV_some, if_pos, if_neg, xg_in, wr_of, if_true, if_false, or_true, true_or]
      · have k67 : EV sc 67 [vR 1] (SK, C) = some (some (vI 1), (SK, C)) := by
          simp (disch := omega) only [V67, B67_0, B67_1, B67_2, B67_11, B67_12, B67_14, V98, B98_0, c41, xcI_some, xcV_some, if_pos, if_neg, xg_in, wr_of, if_true, if_false, or_true, true_or]
        refine rest C m (m 9 - 1) h (by omega) (by omega) e .rf (Or.inl (Int.le_refl _)) ?_ fun ν hν => ⟨ν, ?_, hν, .rf⟩
        · simp (disch := omega) only [B148_5, k67, B148_6, xcI_some, xcV_some, if_pos, if_neg, xg_in, wr_of, if_true, if_false, or_true, true_or]
        · simp (disch := omega) only [B221_4, hν, e, B221_6, xcI_some, xcV_some, if_pos, if_neg, xg_in, wr_of, if_true, if_false, or_true, true_or]
theorem op_go (h : yAll μ) {x : Int} : yOp sc 148 221 [vI x] μ := by
  obtain ⟨⟨a1, a2, a3, a4, a5, a6, a7, a8, a9, a10, a11⟩, hk⟩ := id h
  have n6 := a1.1
  have n3 := a1.2.1
  have n5 := a2.2
  have n10 : 0 ≤ μ 140 10 ∧ μ 140 10 ≤ 600 := ⟨a3.1, a3.2.1⟩
  have n7 : 0 ≤ μ 140 7 ∧ μ 140 7 ≤ 60 := ⟨a4.1, a4.2.1⟩
  have n0 : 0 ≤ μ 140 0 ∧ μ 140 0 ≤ 60 ∧ μ 2 3 = μ 140 0 := a6.1
  have n1 : 0 ≤ μ 140 1 ∧ μ 140 1 ≤ 1152 ∧ μ 2 4 = μ 140 1 := a6.2.1
  have n8 : 0 ≤ μ 140 8 ∧ μ 140 8 ≤ 60 := ⟨a7.1, a7.2.1⟩
  have n9 := a8.1
  have c7 := a4.2.2.1
  have c8 := a7.2.2.1
  have c10 := a3.2.2.1
  by_cases hx : 1 ≤ x ∧ x ≤ 10
  · by_cases hl : μ 140 10 + x ≤ 600
    · have bd := wk_bd a8
      obtain ⟨C', m', y1, y2, y3, y4⟩ := go_loop (sc := sc) x (μ 140 10) hx.1 hx.2 n10.1 hl 424 μ (μ 140) 0 0 h.1 (by unfold mea; omega) (by omega) (by omega) (by omega) (by omega) (by omega)
      refine .mk h (m' 10 - μ 140 10) C' m' ?_ y3 (fun ν hν => ?_) y4
      · simp (disch := omega) only [V148, B148_0, B148_2, V89, B89_0, c10, B148_3, B148_4, y1, xcI_some, xcV_some, if_pos, if_neg, xg_in, wr_of, if_true, if_false, or_true, true_or]
      · obtain ⟨ν', v1, v2, v3⟩ := y2 (up2 ν 139 3 0) (by rw [up2_k (by omega)]; exact hν)
        refine ⟨ν', ?_, v2, frM.th.tr v3⟩
        simp (disch := omega) only [V221, B221_0, in_t, B221_1, B221_2, up2_ne, hν, B221_3, v1, xcI_some, xcV_some, if_pos, if_neg, xg_in, wr_of, if_true, if_false, or_true, true_or]
    · refine .same h (-4) ?_ fun ν hν => ?_
      · simp (disch := omega) only [V148, B148_0, B148_2, V89, B89_0, c10, B148_3, xcI_some, xcV_some, if_pos, if_neg, xg_in, wr_of, if_true, if_false, or_true, true_or]
      · simp (disch := omega) only [V221, B221_0, in_t, B221_1, B221_2, up2_ne, hν, xcI_some, xcV_some, if_pos, if_neg, xg_in, wr_of, if_true, if_false, or_true, true_or]
  · refine .same h (-2) ?_ fun ν hν => ?_
    · by_cases x1 : x < 1
      · simp (disch := omega) only [V148, B148_0, B148_1, xcI_some, xcV_some, if_pos, if_neg, xg_in, wr_of, if_true, if_false, or_true, true_or]
      · simp (disch := omega) only [V148, B148_0, B148_1, xcI_some, xcV_some, if_pos, if_neg, xg_in, wr_of, if_true, if_false, or_true, true_or]
    · simp (disch := omega) only [V221, B221_0, in_f, B221_1, xcI_some, xcV_some, if_pos, if_neg, xg_in, wr_of, if_true, if_false, or_true, true_or]
end

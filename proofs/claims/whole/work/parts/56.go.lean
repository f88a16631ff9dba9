/-! go: one step, all steps -/
section
variable {sc : Nat × (Nat → Int)} {C : xM} {m : Nat → Int}
theorem wk_bd (h : yP C m) : (m 9).toNat ≤ (wk m).length ∧ (wk m).length ≤ 8 ∧ 0 ≤ m 9 ∧ m 9 ≤ 8 := by
  have n9 := h.1
  have g := allU_ge (m := m) (m 9).toNat (fun r hr => (yP_r h (r := r) (by omega)).1)
  exact ⟨g, h.2.2.1, n9.1, n9.2.1⟩
def mea (m : Nat → Int) : Int := 3 * ((wk m).length : Int) - m 9
theorem step (n bg : Int) (h : yK C m) {top : Int} (ht : m 9 = top + 1) (t0 : 0 ≤ top) (h10 : m 10 < 600) : ∃ (r : Int) (C' : xM) (m' : Nat → Int), (∀ d s : Int, 0 ≤ d → d < 600 → xcV (EV sc 73 [vR 1] (SK, C)) (fun σ => AT sc 148 7 [vR 0, vI n, vI d, vI s] [] σ) = AT sc 148 11 [vR 0, vI n, vI (d + r), vI s] [] (SK, C')) ∧
    (∀ ν : xM, ν 140 = m → ∃ ν' : xM, AT sc 221 8 [vR 139, vI n, vI bg, vN, vN] [vI 1] (SK, ν) = AT sc 221 15 [vR 139, vI n, vI bg, vI 1, vN] [] (SK, ν') ∧ ν' 140 = m' ∧ frM ν ν') ∧ frC C C' ∧ yK C' m' ∧ m' 10 = m 10 + r ∧ ((r = 0 ∧ mea m' < mea m) ∨ r = 1) ∧ (top = 0 → frsh m → r = 1) := by
  have a8 := h.2.2.2.2.2.2.2.1
  have n9 := a8.1
  have bd := wk_bd a8
  obtain ⟨C1, m1, K, x1, x2, x3, x4, ⟨ρ, ho, hρ⟩, x6, x7, x8, x9, x10, x11, x12, x13⟩ := trim (sc := sc) h ht t0
  have hwl : (wk m).length = (rowU m top.toNat).length + (allU m top.toNat).length := by
    unfold wk
    rw [ht, show (top + 1).toNat = top.toNat + 1 by omega, allU_s, List.length_append]
  have hrow1 : 1 ≤ (rowU m top.toNat).length := by
    have g := yP_r a8 (r := top.toNat) (by omega)
    rw [rowU_len]
    omega
  have hsub := x9.length_le
  rw [List.length_append] at hsub
  generalize allU m top.toNat = L at *
  have m19 := x7.1.1
  have c41 := x7.1.2.2.2
  have t8 := x7.1.2.2.1
  have hl := x7.2.2.2.2.2.1
  have hrt := x7.2.2.2.2.2.2.1
  have len8 : K.length ≤ 8 := by
    have g := x7.2.1.2.1
    rw [List.length_append] at g
    omega
  have e1 : top + 1 - 1 = top := by omega
  have c47 : C1 47 top.toNat = K.length := by rw [hrt.1, hl]
  have k101 : EV sc 101 [vR 41] (SK, C1) = some (some (vI K.length), (SK, C1)) := by
    simp (disch := omega) only [V101, B101_0, B101_1, B101_2, B101_3, c41, e1, G_46, gt_in, c47, xcI_some, xcV_some, if_pos, if_neg, xg_in, wr_of, if_true, if_false, or_true, true_or]
  have m8 : ∀ ν : xM, ν 140 = m → ∃ ν' : xM, AT sc 221 8 [vR 139, vI n, vI bg, vN, vN] [vI 1] (SK, ν) = AT sc 221 9 [vR 139, vI n, vI bg, vI 1, vI top] [] (SK, ν') ∧ ν' 140 = m1 ∧ frM ν ν' := fun ν hν => by
    obtain ⟨ν1, v1, v2, v3⟩ := x2 ν hν
    have v1' : EV sc 217 [vR 139, vI top] (SK, ν) = some (none, (SK, ν1)) := v1
    refine ⟨ν1, ?_, v2, v3.M⟩
    have q9 : m1 9 - 1 = top := by omega
    simp (disch := omega) only [B221_8, hν, ht, e1, v1', v2, m19, xcI_some, xcV_some, if_pos, if_neg, xg_in, wr_of, if_true, if_false, or_true, true_or]
  -- a row that is settled
  have settled : ∀ (C' : xM) (m' : Nat → Int), EV sc 74 [vR 1] (SK, C1) = some (some (vI 0), (SK, C1)) → EV sc 78 [vR 1] (SK, C1) = some (none, (SK, C')) → (rS m1 (fun ν => AT sc 221 9 [vR 139, vI n, vI bg, vI 1, vI top] [] (SK, ν)) (fun ν => AT sc 221 15 [vR 139, vI n, vI bg, vI 1, vN] [] (SK, ν)) m') → frC C1 C' → yK C' m' → m' 10 = m1 10 → mea m' < mea m → (top = 0 → ¬ frsh m) → ∃ (r : Int) (C' : xM) (m' : Nat → Int), (∀ d s : Int, 0 ≤ d → d < 600 → xcV (EV sc 73 [vR 1] (SK, C)) (fun σ => AT sc 148 7 [vR 0, vI n, vI d, vI s] [] σ) = AT sc 148 11 [vR 0, vI n, vI (d + r), vI s] [] (SK, C')) ∧
    (∀ ν : xM, ν 140 = m → ∃ ν' : xM, AT sc 221 8 [vR 139, vI n, vI bg, vN, vN] [vI 1] (SK, ν) = AT sc 221 15 [vR 139, vI n, vI bg, vI 1, vN] [] (SK, ν') ∧ ν' 140 = m' ∧ frM ν ν') ∧ frC C C' ∧ yK C' m' ∧ m' 10 = m 10 + r ∧ ((r = 0 ∧ mea m' < mea m) ∨ r = 1) ∧ (top = 0 → frsh m → r = 1) := fun C' m' k74 k78 k9 f1 f2 f3 f4 f5 => by
    refine ⟨0, C', m', fun d s d0 d1 => ?_, fun ν hν => ?_, x3.tr f1, f2, by omega, Or.inl ⟨rfl, f4⟩, fun z1 z2 => absurd z2 (f5 z1)⟩
    · rw [Int.add_zero]
      simp (disch := omega) only [x1, B148_7, k74, B148_8, B148_10, k78, xcI_some, xcV_some, if_pos, if_neg, xg_in, wr_of, if_true, if_false, or_true, true_or]
    · obtain ⟨ν1, v1, v2, v3⟩ := m8 ν hν
      obtain ⟨ν2, u1, u2, u3⟩ := k9 ν1 v2
      have u1' : AT sc 221 9 [vR 139, vI n, vI bg, vI 1, vI top] [] (SK, ν1) = AT sc 221 15 [vR 139, vI n, vI bg, vI 1, vN] [] (SK, ν2) := u1
      exact ⟨ν2, v1.trans u1', u2, v3.tr u3.M⟩
  have q9 : m1 9 - 1 = top := by omega
  by_cases hK : K = []
  · subst hK
    have k74 : EV sc 74 [vR 1] (SK, C1) = some (some (vI 0), (SK, C1)) := by
      have z : (([] : List Int).length : Int) = 0 := rfl
      rw [z] at k101
      simp (disch := omega) only [V74, B74_0, B74_1, B74_2, B74_3, B74_4, k101, xcI_some, xcV_some, if_pos, if_neg, xg_in, wr_of, if_true, if_false, or_true, true_or]
    obtain ⟨C', m', y1, y2, y3, y4, y5, y6, y7⟩ := settle_empty (sc := sc) (n := n) (bg := bg) x4 x7
    refine settled C' m' k74 y1 y2 y3 y4 y5 ?_ (fun z1 z2 => (x13 z1 z2).1 rfl)
    · unfold mea
      rw [y6, y7, ht]
      simp only [List.length_nil] at hsub
      omega
  · have hK1 : 1 ≤ K.length := by
      rcases K with _ | ⟨u, l⟩
      · exact absurd rfl hK
      · simp only [List.length_cons]; omega
    by_cases hd : m1 (49120 + top).toNat = 0
    · have c49 : C1 49 top.toNat = 0 := by rw [hrt.2.1, hd]
      have k74 : EV sc 74 [vR 1] (SK, C1) = some (some (vI 1), (SK, C1)) := by
        simp (disch := omega) only [V74, B74_0, B74_1, B74_2, B74_3, B74_4, V103, B103_0, B103_1, B103_2, B103_3, c41, e1, G_48, gt_in, c49, k101, xcI_some, xcV_some, if_pos, if_neg, xg_in, wr_of, if_true, if_false, or_true, true_or]
      obtain ⟨C', m', y1, y2, y3, y4, y5, y6⟩ := run (sc := sc) (yQ_K x4 (tP_yP x7 hK).1) x7 hK x8 x6 ho hρ (by omega)
      refine ⟨1, C', m', fun d s d0 d1 => ?_, fun ν hν => ?_, x3.tr y3, y4, by omega, Or.inr rfl, fun _ _ => rfl⟩
      · simp (disch := omega) only [x1, B148_7, k74, B148_8, y1, B148_9, xcI_some, xcV_some, if_pos, if_neg, xg_in, wr_of, if_true, if_false, or_true, true_or]
      · obtain ⟨ν1, v1, v2, v3⟩ := m8 ν hν
        obtain ⟨ν2, u1, u2, u3⟩ := y2 ν1 v2
        refine ⟨ν2, ?_, u2, v3.tr u3⟩
        rw [v1, B221_9]
        simp (disch := omega) only [v2, hl, B221_10, hd, u1, B221_11, xcI_some, xcV_some, if_pos, if_neg, xg_in, wr_of, if_true, if_false, or_true, true_or]
    · have hd1 : m1 (49120 + top).toNat = 1 := by
        rcases hrt.2.2.2.2 with z | z
        · exact absurd z hd
        · exact z
      have c49 : C1 49 top.toNat = 1 := by rw [hrt.2.1, hd1]
      have k74 : EV sc 74 [vR 1] (SK, C1) = some (some (vI 0), (SK, C1)) := by
        simp (disch := omega) only [V74, B74_0, B74_1, B74_2, B74_3, B74_4, V103, B103_0, B103_1, B103_2, B103_3, c41, e1, G_48, gt_in, c49, k101, xcI_some, xcV_some, if_pos, if_neg, xg_in, wr_of, if_true, if_false, or_true, true_or]
      have nf : top = 0 → ¬ frsh m := fun z1 z2 => hd (x13 z1 z2).2
      by_cases hk2 : 2 ≤ K.length
      · obtain ⟨C', m', y1, y2, y3, y4, y5, y6, y7⟩ := settle_cut (sc := sc) (n := n) (bg := bg) x4 x7 hd hk2
        refine settled C' m' k74 y1 y2 y3 y4 y5 ?_ nf
        · unfold mea
          rw [y6, y7, ht, List.length_append]
          omega
      · obtain ⟨u, hu⟩ : ∃ u, K = [u] := by
          rcases K with _ | ⟨u, _ | ⟨v, l⟩⟩
          · exact absurd rfl hK
          · exact ⟨u, rfl⟩
          · simp only [List.length_cons] at hk2
            omega
        subst hu
        obtain ⟨C', m', y1, y2, y3, y4, y5, y6, y7⟩ := settle_fail (sc := sc) (n := n) (bg := bg) x4 x7 hd (x8 u (List.mem_singleton.mpr rfl))
        refine settled C' m' k74 y1 y2 y3 y4 y5 ?_ nf
        · unfold mea
          rw [y6, y7, ht]
          omega
end

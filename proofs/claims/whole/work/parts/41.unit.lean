/-! a unit comes to a slot -/
section
variable {sc : Nat × (Nat → Int)} {C : xM} {m : Nat → Int} {ρ : Int → Int → Int}
theorem unit_comes (h : yJ C m) (ho : oB ρ m) {sf st s' : Int} (hS : ySl C m sf s') (hρ : oSl ρ m s') (sf0 : 0 ≤ sf) (sf1 : sf < 63) (hst : st = 61 ∨ st = 62) (hne : st ≠ sf) (hs' : s' = 61 ∨ s' = 63) {u : Int} (u0 : 0 ≤ u) (u1 : u < m 7) :
    ∃ (b : Int) (C' : xM) (m' : Nat → Int), (b = 0 ∨ b = 1) ∧ EV sc 71 [vR 1, vI u, vI sf, vI st] (SK, C) = some (some (vI b), (SK, C')) ∧ rS m (fun ν => EV sc 208 [vR 139, vI u, vI s'] (SK, ν)) (fun ν => some (some (vI b), (SK, ν))) m' ∧ (∀ k i : Nat, ¬ dS st k i → C' k i = C k i) ∧ (∀ i : Nat, ¬ aS s' i → ¬ aS 62 i → m' i = m i) ∧
      (b = 1 → ySl C' m' st s') ∧ (b = 0 → ySl C' m' sf s') ∧ oSl ρ m' s' := by
  have a4 := h.1
  have n7 : 0 ≤ m 7 ∧ m 7 ≤ 60 := ⟨a4.1, a4.2.1⟩
  have hl : ∀ f : Int, 0 ≤ f → f < 8 → 0 ≤ m (12 + 8 * s' + f).toNat ∧ m (12 + 8 * s' + f).toNat ≤ 24 := fun f f0 f1 => ⟨(hS f f0 f1).2.1, (hS f f0 f1).2.2.1⟩
  obtain ⟨m1, r1, x1, x2⟩ := m168 (sc := sc) (m := m) (s := s') (t := 62) (by omega) (by omega) (by omega) (by omega) (by omega) hl
  have m11 : m1 1 = m 1 := x1 1 (by unfold aS; omega)
  have k14 := K14 (sc := sc) (μ := C) (s := sf) (t := st) sf0 sf1 (by omega) (by omega)
  have hc1 : ∀ k i : Nat, ¬ dS st k i → cpC C sf st k i = C k i := fun k i hi => cpC_ne (by omega) hi
  have hK1 : yJ (cpC C sf st) m1 := yJ_W h (fun i hi => x1 i (aS_W (by omega) hi)) (fun k i hi => hc1 k i (dS_W hst hi))
  have ho1 : oB ρ m1 := oB_W ho h (fun i hi => x1 i (aS_W (by omega) hi))
  have row1 : ∀ i : Nat, aS s' i → m1 i = m i := fun i hi => x1 i (fun y => by unfold aS at hi y; omega)
  have hS1 : ySl (cpC C sf st) m1 st s' := fun f f0 f1 => yF_row (cpC_yF (hS f f0 f1) sf0 (by omega) f0 f1) (by omega) f0 f1 row1 m11
  have slr : ∀ (w : Nat → Int), (∀ i : Nat, aS s' i → w i = m i) → ∀ f : Int, 0 ≤ f → f < 8 → fiL w s' f = fiL m s' f := fun w hw f f0 f1 => by
    have l24 := hl f f0 f1
    exact slE_fi (s := s') (t := s') ⟨hw _ (by unfold aS; omega), fun i i0 i1 => ⟨hw _ (by unfold aS; omega), hw _ (by unfold aS; omega)⟩⟩
  have hρ1 : oSl ρ m1 s' := fun f f0 f1 => by
    rw [slr m1 row1 f f0 f1]
    exact hρ f f0 f1
  have w17 : m1 7 = m 7 := x1 7 (by unfold aS; omega)
  obtain ⟨C2, z1, z2, z3, z4⟩ := comes (sc := sc) (c := u) hK1 ho1 hS1 hρ1 hst (by omega) u0 (by omega)
  have q34u := q34 (sc := sc) a4 u0 u1
  have g34 := (a4.2.2.2 u u0 u1).2.2.2
  have p1 : m1 (41964 + u).toNat = m (41964 + u).toNat := x1 _ (by unfold aS; omega)
  have hc2 : ∀ k i : Nat, ¬ dS st k i → C2 k i = C k i := fun k i hi => (z2 k i hi).trans (hc1 k i hi)

  have back : ∀ (w : Nat → Int) (D : xM), (∀ i : Nat, ¬ aS s' i → w i = m1 i) → (∀ k i : Nat, ¬ dS st k i → D k i = C k i) → ∃ m' : Nat → Int, rS w (fun ν => EV sc 168 [vR 139, vI 62, vI s'] (SK, ν)) (fun ν => some (none, (SK, ν))) m' ∧ (∀ i : Nat, ¬ aS s' i → ¬ aS 62 i → m' i = m i) ∧ ySl D m' sf s' ∧ oSl ρ m' s' := fun w D hw hD => by
    have e62 : ∀ f : Int, 0 ≤ f → f < 8 → slE m w s' 62 f := fun f f0 f1 => by
      obtain ⟨y1, y2⟩ := x2 f f0 f1
      have l24 := hl f f0 f1
      refine ⟨by rw [hw _ (by unfold aS; omega)]; exact y1, fun i i0 i1 => ?_⟩
      rw [hw _ (by unfold aS; omega), hw _ (by unfold aS; omega)]
      exact y2 i i0 i1
    obtain ⟨m', r2, x3, x4⟩ := m168 (sc := sc) (m := w) (s := 62) (t := s') (by omega) (by omega) (by omega) (by omega) (by omega) (fun f f0 f1 => by rw [(e62 f f0 f1).1]; exact hl f f0 f1)
    have ec : ∀ f : Int, 0 ≤ f → f < 8 → slE m m' s' s' f := fun f f0 f1 => by
      obtain ⟨y1, y2⟩ := e62 f f0 f1
      obtain ⟨y3, y4⟩ := x4 f f0 f1
      refine ⟨y3.trans y1, fun i i0 i1 => ?_⟩
      have y5 := y4 i i0 (by rw [y1]; exact i1)
      have y6 := y2 i i0 i1
      exact ⟨y5.1.trans y6.1, y5.2.trans y6.2⟩
    have m'1 : m' 1 = m 1 := by rw [x3 1 (by unfold aS; omega), hw 1 (by unfold aS; omega), m11]
    refine ⟨m', r2, fun i hi hi2 => by rw [x3 i hi, hw i hi, x1 i hi2], fun f f0 f1 => ?_, fun f f0 f1 => ?_⟩
    · have D5 : D 5 = C 5 := by
        funext y
        exact hD 5 y (by unfold dS; omega)
      exact yF_C (slE_yF (hS f f0 f1) (ec f f0 f1) m'1) sf0 f0 f1 (fun k i hi => hD k i (by unfold dS at hi ⊢; omega)) D5
    · rw [slE_fi (ec f f0 f1)]
      exact hρ f f0 f1
  by_cases ok : fitC m1 s' u
  · rw [bI_t ok] at z1
    obtain ⟨m2, r2, y1, y2, y3⟩ := z3 ok
    have p2 : m2 (41964 + u).toNat = m (41964 + u).toNat := by rw [y1 _ (by unfold aS; omega), p1]
    by_cases hp : m (41964 + u).toNat = -1
    · refine ⟨1, C2, m2, Or.inr rfl, ?_, fun ν hν => ?_, hc2, fun i hi hi2 => by rw [y1 i hi, x1 i hi2], fun _ => y2, fun x => absurd x (by omega), y3⟩
      · have k14' : EV sc 14 [vR 2, vI sf, vI st] (SK, C) = some (none, (SK, cpC C sf st)) := k14
        simp (disch := omega) only [V71, B71_0, B71_1, B71_2, B71_3, B71_4, B71_6, B71_8, q34u, k14', z1, hp, xcI_some, xcV_some, if_pos, if_neg, xg_in, wr_of, if_true, if_false, or_true, true_or]
      · obtain ⟨ν1, v1, v2, v3⟩ := r1 ν hν
        obtain ⟨ν2, v4, v5, v6⟩ := r2 ν1 v2
        have v1' : EV sc 168 [vR 139, vI s', vI 62] (SK, ν) = some (none, (SK, ν1)) := v1
        have v4' : EV sc 191 [vR 139, vI u, vI s'] (SK, ν1) = some (some (vI 1), (SK, ν2)) := v4
        refine ⟨ν2, ?_, v5, v3.tr v6⟩
        have vp : ν2 140 (41964 + u).toNat = -1 := by rw [v5, p2, hp]
        show EV sc 208 [vR 139, vI u, vI s'] (SK, ν) = some (some (vI 1), (SK, ν2))
        simp (disch := omega) only [V208, B208_0, B208_1, B208_2, B208_4, v1', v4', vp, xcI_some, xcV_some, if_pos, if_neg, xg_in, wr_of, if_true, if_false, or_true, true_or]
    · have g5 : 0 ≤ m (41964 + u).toNat ∧ m (41964 + u).toNat < m 7 := by omega
      generalize hP : m (41964 + u).toNat = p at *
      have hK2 : yJ C2 m2 := yJ_W hK1 (fun i hi => y1 i (aS_W (by omega) hi)) (fun k i hi => z2 k i (dS_W hst hi))
      have ho2 : oB ρ m2 := oB_W ho1 hK1 (fun i hi => y1 i (aS_W (by omega) hi))
      have w27 : m2 7 = m 7 := by rw [y1 7 (by unfold aS; omega), w17]
      obtain ⟨C3, a1, a2, a3, a5⟩ := comes (sc := sc) (c := p) hK2 ho2 y2 y3 hst (by omega) g5.1 (by omega)
      have hc3 : ∀ k i : Nat, ¬ dS st k i → C3 k i = C k i := fun k i hi => (a2 k i hi).trans (hc2 k i hi)
      have k14' : EV sc 14 [vR 2, vI sf, vI st] (SK, C) = some (none, (SK, cpC C sf st)) := k14
      by_cases ok2 : fitC m2 s' p
      · rw [bI_t ok2] at a1
        obtain ⟨m3, r3, b1, b2, b3⟩ := a3 ok2
        refine ⟨1, C3, m3, Or.inr rfl, ?_, fun ν hν => ?_, hc3, fun i hi hi2 => by rw [b1 i hi, y1 i hi, x1 i hi2], fun _ => b2, fun x => absurd x (by omega), b3⟩
        · simp (disch := omega) only [V71, B71_0, B71_1, B71_2, B71_3, B71_4, B71_5, B71_6, B71_8, q34u, k14', z1, a1, xcI_some, xcV_some, if_pos, if_neg, xg_in, wr_of, if_true, if_false, or_true, true_or]
        · obtain ⟨ν1, v1, v2, v3⟩ := r1 ν hν
          obtain ⟨ν2, v4, v5, v6⟩ := r2 ν1 v2
          obtain ⟨ν3, v7, v8, v9⟩ := r3 ν2 v5
          have v1' : EV sc 168 [vR 139, vI s', vI 62] (SK, ν) = some (none, (SK, ν1)) := v1
          have v4' : EV sc 191 [vR 139, vI u, vI s'] (SK, ν1) = some (some (vI 1), (SK, ν2)) := v4
          have v7' : EV sc 191 [vR 139, vI p, vI s'] (SK, ν2) = some (some (vI 1), (SK, ν3)) := v7
          refine ⟨ν3, ?_, v8, v3.tr (v6.tr v9)⟩
          have vp : ν2 140 (41964 + u).toNat = p := by rw [v5, p2]
          show EV sc 208 [vR 139, vI u, vI s'] (SK, ν) = some (some (vI 1), (SK, ν3))
          simp (disch := omega) only [V208, B208_0, B208_1, B208_2, B208_3, B208_4, v1', v4', vp, v7', xcI_some, xcV_some, if_pos, if_neg, xg_in, wr_of, if_true, if_false, or_true, true_or]
      · rw [bI_f ok2] at a1
        have a5' := a5 ok2
        obtain ⟨m4, r4, b1, b2, b3⟩ := back m2 C3 y1 hc3
        refine ⟨0, C3, m4, Or.inl rfl, ?_, fun ν hν => ?_, hc3, b1, fun x => absurd x (by omega), fun _ => b2, b3⟩
        · simp (disch := omega) only [V71, B71_0, B71_1, B71_2, B71_3, B71_4, B71_5, B71_7, B71_8, q34u, k14', z1, a1, xcI_some, xcV_some, if_pos, if_neg, xg_in, wr_of, if_true, if_false, or_true, true_or]
        · obtain ⟨ν1, v1, v2, v3⟩ := r1 ν hν
          obtain ⟨ν2, v4, v5, v6⟩ := r2 ν1 v2
          obtain ⟨ν3, v7, v8, v9⟩ := r4 ν2 v5
          have v1' : EV sc 168 [vR 139, vI s', vI 62] (SK, ν) = some (none, (SK, ν1)) := v1
          have v4' : EV sc 191 [vR 139, vI u, vI s'] (SK, ν1) = some (some (vI 1), (SK, ν2)) := v4
          have v7' : EV sc 168 [vR 139, vI 62, vI s'] (SK, ν2) = some (none, (SK, ν3)) := v7
          have v5' := a5' ν2 v5
          refine ⟨ν3, ?_, v8, v3.tr (v6.tr v9)⟩
          have vp : ν2 140 (41964 + u).toNat = p := by rw [v5, p2]
          show EV sc 208 [vR 139, vI u, vI s'] (SK, ν) = some (some (vI 0), (SK, ν3))
          simp (disch := omega) only [V208, B208_0, B208_1, B208_2, B208_3, B208_5, B208_6, v1', v4', vp, v5', v7', xcI_some, xcV_some, if_pos, if_neg, xg_in, wr_of, if_true, if_false, or_true, true_or]
  · rw [bI_f ok] at z1
    have z4' := z4 ok
    obtain ⟨m4, r4, b1, b2, b3⟩ := back m1 C2 (fun _ _ => rfl) hc2
    have k14' : EV sc 14 [vR 2, vI sf, vI st] (SK, C) = some (none, (SK, cpC C sf st)) := k14
    refine ⟨0, C2, m4, Or.inl rfl, ?_, fun ν hν => ?_, hc2, b1, fun x => absurd x (by omega), fun _ => b2, b3⟩
    · simp (disch := omega) only [V71, B71_0, B71_1, B71_2, B71_3, q34u, k14', z1, xcI_some, xcV_some, if_pos, if_neg, xg_in, wr_of, if_true, if_false, or_true, true_or]
    · obtain ⟨ν1, v1, v2, v3⟩ := r1 ν hν
      obtain ⟨ν3, v7, v8, v9⟩ := r4 ν1 v2
      have v1' : EV sc 168 [vR 139, vI s', vI 62] (SK, ν) = some (none, (SK, ν1)) := v1
      have v7' : EV sc 168 [vR 139, vI 62, vI s'] (SK, ν1) = some (none, (SK, ν3)) := v7
      have v4' := z4' ν1 v2
      refine ⟨ν3, ?_, v8, v3.tr v9⟩
      show EV sc 208 [vR 139, vI u, vI s'] (SK, ν) = some (some (vI 0), (SK, ν3))
      simp (disch := omega) only [V208, B208_0, B208_1, B208_2, B208_5, B208_6, v1', v4', v7', xcI_some, xcV_some, if_pos, if_neg, xg_in, wr_of, if_true, if_false, or_true, true_or]
end

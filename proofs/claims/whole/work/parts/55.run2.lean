/-! a run, the whole -/
section
variable {sc : Nat × (Nat → Int)} {C : xM} {m : Nat → Int}
theorem oB_fr2 {ρ : Int → Int → Int} {m' : Nat → Int} (ho : oB ρ m) (h : yJ C m) (em : ∀ i : Nat, i = 0 ∨ i = 7 ∨ (12 ≤ i ∧ i < 500) ∨ (21004 ≤ i ∧ i < 40524) ∨ (41904 ≤ i ∧ i < 41964) ∨ (42084 ≤ i ∧ i < 49044) → m' i = m i) : oB ρ m' := by
  obtain ⟨a4, a5, a6⟩ := h
  have n0 : 0 ≤ m 0 ∧ m 0 ≤ 60 ∧ C 2 3 = m 0 := a6.1
  have h7 := a4.2.1
  refine ⟨fun s f s0 s1 f0 f1 => ?_, fun c k c0 c1 k0 k1 => ?_⟩
  · rw [em 0 (by omega)] at s1
    have hF := a6.2.2 s f s0 s1 f0 f1
    have h24 := hF.2.2.1
    rw [em (12 + 8 * s + f).toNat (by omega), mkL_fr (m := m) (fun k k0 k1 => em _ (by omega))]
    exact ho.1 s f s0 s1 f0 f1
  · rw [em 7 (by omega)] at c1
    rw [em (41904 + c).toNat (by omega)] at k1
    have he := ((a5 c c0 c1).1 k k0 k1).2.1
    have hne := (a4.2.2.2 c c0 c1).2.1
    exact yOk_fr (ho.2 c k c0 c1 k0 k1) (by omega) (by omega) (by omega) (fun i hi => em i (by unfold aEe at hi; omega))
theorem wrM_ne {r l n s a : Int} {i : Nat} (r0 : 0 ≤ r) (h : i ≠ 10) (h2 : i < 49296) : wrM m r l n s a i = m i := by
  unfold wrM
  simp (disch := omega) only [up1_ne]
theorem wrM_10 {r l n s a : Int} (r0 : 0 ≤ r) : wrM m r l n s a 10 = r + 1 := by
  unfold wrM
  simp (disch := omega) only [up1_ne, up1_eq]
theorem wrC_ne {r l n s a : Int} {k i : Nat} (h : k ≠ 54 ∧ k ≠ 56 ∧ k ≠ 58) : wrC C r l n s a k i = C k i := by
  unfold wrC
  simp (disch := omega) only [up2_ne]
theorem run {ρ : Int → Int → Int} {top : Int} {K L : List Int} (h : yK C m) (hT : tP C m top K L) (hK : K ≠ []) (hr : ∀ u ∈ K, rdy m u) (hS : ySl C m 61 61) (ho : oB ρ m) (hρ : oSl ρ m 61) (h10 : m 10 < 600) : ∃ (C' : xM) (m' : Nat → Int), EV sc 75 [vR 1] (SK, C) = some (none, (SK, C')) ∧ (∀ ν : xM, ν 140 = m → ∃ ν' : xM, EV sc 220 [vR 139, vI top] (SK, ν) = some (none, (SK, ν')) ∧ ν' 140 = m' ∧ frM ν ν') ∧ frC C C' ∧ yK C' m' ∧ m' 10 = m 10 + 1 ∧ ((m' 9 = top ∧ wk m' = L) ∨ (m' 9 = top + 1 ∧ wk m' = K ++ L)) := by
  obtain ⟨a1, a2, a3, a4, a5, a6, a7, a8, a9, a10, a11⟩ := id h
  have n7 : 0 ≤ m 7 ∧ m 7 ≤ 60 := ⟨a4.1, a4.2.1⟩
  have n0 : 0 ≤ m 0 ∧ m 0 ≤ 60 ∧ C 2 3 = m 0 := a6.1
  have n10 : 0 ≤ m 10 ∧ m 10 ≤ 600 ∧ C 54 2 = m 10 := ⟨a3.1, a3.2.1, a3.2.2.1⟩
  have n6 := a1.1
  obtain ⟨⟨h9, t0, t8, c41⟩, hU, hnd, hrK, hL, hl, hrt, hrow⟩ := id hT
  have hw := (tP_yP hT hK).2
  have hKb : ∀ u ∈ K, 0 ≤ u ∧ u < m 7 := fun u hu => by
    obtain ⟨i, hi⟩ := List.getElem?_of_mem (List.mem_append_left L hu)
    have g := hU.2.2 i u hi
    exact ⟨g.2.2.1, g.2.2.2.1⟩
  have hc := chU_in a4 hKb
  have hc60 : ∀ c ∈ chU m K, 0 ≤ c ∧ c < 60 := fun c hcc => by have := hc c hcc; omega
  have len8 : K.length ≤ 8 := by
    have g2 := hU.2.1
    rw [List.length_append] at g2
    omega
  have len : (chU m K).length ≤ 16 := by
    have g := chU_len (m := m) K
    omega
  obtain ⟨ans, C1, m1, x1, x2, x3, x4, x5, x6⟩ := tests_loop (sc := sc) t0 (m 6).toNat 0 C m h hS hw h9 hl hKb len (Int.le_refl _) (by omega)
  have hw1 : wk m1 = K ++ L := by rw [wk_fr a8 (fun i hi => x5 i (by omega) (by omega)), hw]
  have hck : chU m1 K = chU m K := chU_fr _ fun u hu => by
    have g := hKb u hu
    exact x5 _ (by omega) (by omega)
  have k90 := K90 (sc := sc) (C := C1) (m := m1) (K := K) (L := L) (top := top) (r := m 10) (l := m 0) (a := ans) x3.2.2.2.2.2.2.2.1 hw1 t0 (by rw [x5 9 (by omega) (by omega)]; exact h9) (by rw [x5 _ (by omega) (by omega)]; exact hl) (by rw [hck]; exact hc60) (by rw [hck]; exact len) (by rw [x4 54 2 (by omega)]; exact n10.2.2) n10.1 h10
  rw [hck] at k90
  have hK2 := yK_wr x3 (r := m 10) (l := m 0) (n := (chU m K).length) (s := sL (chU m K) 0 1) (a := ans) (x5 10 (by omega) (by omega)) h10
  have mw := m220_wr (sc := sc) (m := m1) (Lc := chU m K) (top := top) (ans := ans) (r := m 10) (x5 10 (by omega) (by omega)) n10.1 h10 hc60 len
  rw [x5 0 (by omega) (by omega)] at mw
  have em : ∀ i : Nat, i ≠ 11 → i ≠ 2 → i ≠ 10 → i < 49296 → wrM m1 (m 10) (m 0) (chU m K).length (sL (chU m K) 0 1) ans i = m i := fun i h1 h2 h3 h4 => by rw [wrM_ne n10.1 h3 h4, x5 i h1 h2]
  have eC : ∀ k i : Nat, k ≠ 59 ∧ k ≠ 54 ∧ k ≠ 56 ∧ k ≠ 58 → wrC C1 (m 10) (m 0) (chU m K).length (sL (chU m K) 0 1) ans k i = C k i := fun k i hi => by rw [wrC_ne (by omega), x4 k i (by omega)]
  have e10 : wrM m1 (m 10) (m 0) (chU m K).length (sL (chU m K) 0 1) ans 10 = m 10 + 1 := wrM_10 n10.1
  have e9 : wrM m1 (m 10) (m 0) (chU m K).length (sL (chU m K) 0 1) ans 9 = top + 1 := by rw [em 9 (by omega) (by omega) (by omega) (by omega)]; exact h9
  have k1 : EV sc 1 [vR 2] (SK, C1) = some (some (vI (m 0)), (SK, C1)) := by
    have q : C1 2 3 = m 0 := by rw [x4 2 3 (by omega)]; exact n0.2.2
    simp (disch := omega) only [V1, B1_0, q, xcI_some, xcV_some, if_pos, if_neg, xg_in, wr_of, if_true, if_false, or_true, true_or]
  generalize hM2 : wrM m1 (m 10) (m 0) (chU m K).length (sL (chU m K) 0 1) ans = m2 at *
  generalize hC2 : wrC C1 (m 10) (m 0) (chU m K).length (sL (chU m K) 0 1) ans = C2 at *
  have cls : EV sc 75 [vR 1] (SK, C) = AT sc 75 8 [vR 1, vI ans, vN] [] (SK, C2) := by
    simp (disch := omega) only [V75, B75_0, x1, B75_6, k1, B75_7, k90, xcI_some, xcV_some, if_pos, if_neg, xg_in, wr_of, if_true, if_false, or_true, true_or]
  have frc : frC C C2 := fun j hj => by
    funext i
    exact eC j i (by omega)
  have w2 : wk m2 = K ++ L := by rw [wk_fr a8 (fun i hi => em i (by omega) (by omega) (by omega) (by omega)), hw]
  have hck2 : chU m2 K = chU m K := chU_fr _ fun u hu => by
    have g := hKb u hu
    exact em _ (by omega) (by omega) (by omega) (by omega)
  have mod : ∀ ν : xM, ν 140 = m → ∃ ν' : xM, EV sc 220 [vR 139, vI top] (SK, ν) = AT sc 220 23 [vR 139, vI top, vI (chU m K).length, vI ans, vN, vN, vN, vN, vN, vN, vN] [] (SK, ν') ∧ ν' 140 = m2 ∧ isL (ν' 143) (chU m K) ∧ frM ν ν' := fun ν hν => by
    have et : ((top.toNat : Nat) : Int) = top := by omega
    have e49 : 49104 + top.toNat = (49104 + top).toNat := by omega
    obtain ⟨ν1, v1, v2, v3⟩ := m219 (sc := sc) hν (r := top.toNat) (by omega) (by rw [e49, hl]; omega) (by rw [e49, hl]; omega) (by
      rw [hrK]
      intro u hu
      have := hKb u hu
      omega)
    rw [hrK] at v1 v2
    rw [et] at v1
    have hν1 : ν1 140 = m := by rw [v3 140 (by omega)]; exact hν
    obtain ⟨ν2, u1, u2, u3⟩ := x2 ν1 hν1 v2
    obtain ⟨ν3, w1, w2, w3⟩ := mw ν2 u2 (by rw [u3 143 (by omega)]; exact v2)
    refine ⟨ν3, ?_, w2, by rw [w3 143 (by omega), u3 143 (by omega)]; exact v2, (frM_row v3).tr (u3.M.tr w3.M)⟩
    simp (disch := omega) only [V220, B220_0, v1, B220_1, u1, w1, xcI_some, xcV_some, if_pos, if_neg, xg_in, wr_of, if_true, if_false, or_true, true_or]
  rcases x6 with ha | ha
  · subst ha
    have hT2 : tP C2 m2 top K L := tP_fr hT n7.2 (fun k i hk => eC k i (by omega)) (fun i hi => em i (by omega) (by omega) (by omega) (by omega)) (fun u hu => (yP_u hK2.2.2.2.2.2.2.2.1 (by rw [w2]; exact hu)).2.2)
    have hr2 : ∀ u ∈ K, rdy m2 u := fun u hu => (rdy_fr a4 (hKb u hu).1 (hKb u hu).2 (fun i hi => em i (by omega) (by omega) (by omega) (by omega))).mpr (hr u hu)
    have hS2 : ySl C2 m2 61 61 := fun f f0 f1 => yF_fr (hS f f0 f1) (fun k i hk => eC k i (by unfold dS at hk; omega)) (fun i _ _ => eC 5 i (by omega)) (by rw [em 1 (by omega) (by omega) (by omega) (by omega)]; exact Int.le_refl _) (fun i hi => em i (by unfold aS at hi; omega) (by unfold aS at hi; omega) (by unfold aS at hi; omega) (by unfold aS at hi; omega)) (by omega) (by omega) ⟨f0, f1⟩
    have ho2 : oB ρ m2 := oB_fr2 ho ⟨a4, a5, a6⟩ (fun i hi => em i (by omega) (by omega) (by omega) (by omega))
    have hρ2 : oSl ρ m2 61 := fun f f0 f1 => by
      have g24 := (hS f f0 f1).2.2.1
      have sl : slE m m2 61 61 f := ⟨em _ (by omega) (by omega) (by omega) (by omega), fun i i0 i1 => ⟨em _ (by omega) (by omega) (by omega) (by omega), em _ (by omega) (by omega) (by omega) (by omega)⟩⟩
      rw [slE_fi sl]
      exact hρ f f0 f1
    obtain ⟨C3, m3, y1, y2, y3, y4, y5, y6, y7⟩ := take (sc := sc) hK2 hT2 hK hr2 hS2 ho2 hρ2
    rw [hck2] at y2
    refine ⟨C3, m3, ?_, fun ν hν => ?_, frc.tr y3, y4, by rw [y7, e10], Or.inl ⟨y6, y5⟩⟩
    · rw [cls]
      simp (disch := omega) only [B75_8, y1, B75_9, B75_11, xcI_some, xcV_some, if_pos, if_neg, xg_in, wr_of, if_true, if_false, or_true, true_or]
    · obtain ⟨ν1, v1, v2, v3, v4⟩ := mod ν hν
      obtain ⟨ν2, u1, u2, u3⟩ := y2 ν1 v2 v3
      exact ⟨ν2, by rw [v1, u1], u2, v4.tr u3.M⟩
  · obtain ⟨y1, y2, y3, y4⟩ := doom (sc := sc) hK2 e9 t0 t8 (by omega : ans ≠ -1)
    refine ⟨_, _, ?_, fun ν hν => ?_, frc.tr ((frC.up (by omega)).tr (frC.up (by omega))), y3, by rw [up1_ne (by omega), up1_ne (by omega), e10], Or.inr ⟨by rw [up1_ne (by omega), up1_ne (by omega), e9], by rw [y4, w2]⟩⟩
    · rw [cls]
      simp (disch := omega) only [B75_8, B75_10, y1, B75_11, xcI_some, xcV_some, if_pos, if_neg, xg_in, wr_of, if_true, if_false, or_true, true_or]
    · obtain ⟨ν1, v1, v2, v3, v4⟩ := mod ν hν
      refine ⟨_, by rw [v1]; exact y2 ν1 _ v2, ?_, v4.tr ((frM.up (Or.inl rfl)).tr (frM.up (Or.inl rfl)))⟩
      simp only [up2_row, v2]
end

/-! a run: its tests, its row in the log -/
theorem wl_of {x : Int} (h0 : -9223372036854775808 ≤ x) (h1 : x ≤ 9223372036854775807) : wl x = x := wl_id ⟨h0, h1⟩
def sL : List Int → Int → Int → Int
  | [], s, _ => s
  | c :: l, s, p => sL l ((s + (c + 1) * p) % 1000003) (p * 61 % 1000003)
theorem sL_bd : ∀ (l : List Int) (s p : Int), 0 ≤ s → s < 1000003 → 0 ≤ sL l s p ∧ sL l s p < 1000003 := by
  intro l
  induction l with
  | nil => intro s p s0 s1; exact ⟨s0, s1⟩
  | cons c l ih => intro s p s0 s1; exact ih _ _ (by omega) (by omega)
section
variable {sc : Nat × (Nat → Int)} {C : xM} {m : Nat → Int}
theorem tests_loop {K L : List Int} {top : Int} (t0 : 0 ≤ top) : ∀ (k : Nat) (t : Int) (C : xM) (m : Nat → Int), yK C m → ySl C m 61 61 → wk m = K ++ L → m 9 = top + 1 → m (49104 + top).toNat = K.length → (∀ u ∈ K, 0 ≤ u ∧ u < m 7) → (chU m K).length ≤ 16 → 0 ≤ t → t + k = m 6 → ∃ (ans : Int) (C' : xM) (m' : Nat → Int), AT sc 75 1 [vR 1, vI (-1), vI t] [] (SK, C) = AT sc 75 6 [vR 1, vI ans, vN] [] (SK, C') ∧
    (∀ ν : xM, ν 140 = m → isL (ν 143) (chU m K) → ∃ ν' : xM, AT sc 220 2 [vR 139, vI top, vI (chU m K).length, vI (-1), vI t, vN, vN, vN, vN, vN, vN] [] (SK, ν) = AT sc 220 12 [vR 139, vI top, vI (chU m K).length, vI ans, vN, vN, vN, vN, vN, vN, vN] [] (SK, ν') ∧ ν' 140 = m' ∧ frR ν ν') ∧ yK C' m' ∧ (∀ k i : Nat, (k ≠ 59 ∨ (i ≠ 8 ∧ i ≠ 9)) → C' k i = C k i) ∧ (∀ i : Nat, i ≠ 11 → i ≠ 2 → m' i = m i) ∧ (ans = -1 ∨ (0 ≤ ans ∧ ans < m 6)) := by
  intro k
  induction k with
  | zero =>
    intro t C m h hS hw ht hl hKb len s0 e
    have n6 := h.1.1
    refine ⟨-1, C, m, ?_, fun ν hν _ => ⟨ν, ?_, hν, .rf⟩, h, fun _ _ _ => rfl, fun _ _ _ => rfl, Or.inl rfl⟩
    · rw [B75_1]
      simp (disch := omega) only [V119, B119_0, n6.2.2, B75_2, xcI_some, xcV_some, if_pos, if_neg, xg_in, wr_of, if_true, if_false, or_true, true_or]
    · rw [B220_2]
      simp (disch := omega) only [hν, xcI_some, xcV_some, if_pos, if_neg, xg_in, wr_of, if_true, if_false, or_true, true_or]
  | succ k ih =>
    intro t C m h hS hw ht hl hKb len s0 e
    obtain ⟨a1, a2, a3, a4, a5, a6, a7, a8, a9, a10, a11⟩ := id h
    have n6 := a1.1
    have n1 : m 1 ≤ 1152 := a6.2.1.2.1
    have hc := chU_in a4 hKb
    have k76 := K76 (sc := sc) h hw t0 ht hl s0 (by omega : t < m 6)
    have m3 := fun ν : xM => fun hν : ν 140 = m => fun hR : isL (ν 143) (chU m K) => m220_3 (sc := sc) (top := top) hν a1 a4 a5 hR len hc s0 (by omega : t < m 6)
    by_cases r : rtc m K t
    · rw [bI_t r] at k76 m3
      obtain ⟨b, z, d, hb, k126, r180⟩ := held (sc := sc) a1 hS n1 s0 (by omega : t < m 6)
      have hKz := yK_z (z := z) (d := d) h
      have em : ∀ i : Nat, i ≠ 11 → i ≠ 2 → zM m z d i = m i := fun i h1 h2 => by unfold zM; rw [up1_ne h2, up1_ne h1]
      have eC : ∀ k i : Nat, (k ≠ 59 ∨ (i ≠ 8 ∧ i ≠ 9)) → zC C z d k i = C k i := fun k i hi => by unfold zC; rw [up2_ne (by omega), up2_ne (by omega)]
      rcases hb with hb | hb
      · subst hb
        refine ⟨t, zC C z d, zM m z d, ?_, fun ν hν hR => ?_, hKz, eC, em, Or.inr ⟨s0, by omega⟩⟩
        · have n62 : zC C z d 59 5 = m 6 := by rw [eC 59 5 (by omega)]; exact n6.2.2
          rw [B75_1]
          simp (disch := omega) only [V119, B119_0, n6.2.2, B75_2, k76, B75_3, k126, B75_4, B75_5, xcI_some, xcV_some, if_pos, if_neg, xg_in, wr_of, if_true, if_false, or_true, true_or]
          rw [B75_1]
          by_cases y : t + 1 < m 6
          · simp (disch := omega) only [V119, B119_0, n62, B75_2, xcI_some, xcV_some, if_pos, if_neg, xg_in, wr_of, if_true, if_false, or_true, true_or]
          · simp (disch := omega) only [V119, B119_0, n62, B75_2, xcI_some, xcV_some, if_pos, if_neg, xg_in, wr_of, if_true, if_false, or_true, true_or]
        · obtain ⟨ν1, v1, v2, v3⟩ := r180 ν hν
          have v1' : EV sc 180 [vR 139, vI t, vI 61] (SK, ν) = some (some (vI 0), (SK, ν1)) := v1
          have m3' := m3 ν hν hR
          have z6 : zM m z d 6 = m 6 := em 6 (by omega) (by omega)
          refine ⟨ν1, ?_, v2, v3⟩
          rw [B220_2]
          simp (disch := omega) only [hν, m3', B220_8, v1', B220_9, B220_11, xcI_some, xcV_some, if_pos, if_neg, xg_in, wr_of, if_true, if_false, or_true, true_or]
          rw [B220_2]
          by_cases y : t + 1 < m 6
          · simp (disch := omega) only [v2, z6, xcI_some, xcV_some, if_pos, if_neg, xg_in, wr_of, if_true, if_false, or_true, true_or]
          · simp (disch := omega) only [v2, z6, xcI_some, xcV_some, if_pos, if_neg, xg_in, wr_of, if_true, if_false, or_true, true_or]
      · subst hb
        have ec : chU (zM m z d) K = chU m K := chU_fr K fun u hu => by
          have := hKb u hu
          exact em _ (by omega) (by omega)
        have hSz : ySl (zC C z d) (zM m z d) 61 61 := fun f f0 f1 => by
          have g := (hS f f0 f1).2.2.1
          refine yF_eq (slE_yF (hS f f0 f1) ⟨em _ (by omega) (by omega), fun i i0 i1 => ⟨em _ (by omega) (by omega), em _ (by omega) (by omega)⟩⟩ (em 1 (by omega) (by omega))) ?_ ?_ ?_ <;> (funext i; exact eC _ i (by omega))
        have hwz : wk (zM m z d) = K ++ L := by
          rw [← hw]
          unfold wk
          rw [em 9 (by omega) (by omega)]
          exact allU_fr _ fun r hr => ⟨em _ (by omega) (by omega), fun k hk => em _ (by omega) (by omega)⟩
        obtain ⟨ans, C', m', x1, x2, x3, x4, x5, x6⟩ := ih (t + 1) (zC C z d) (zM m z d) hKz hSz hwz (by rw [em 9 (by omega) (by omega)]; exact ht) (by rw [em _ (by omega) (by omega)]; exact hl) (fun u hu => by rw [em 7 (by omega) (by omega)]; exact hKb u hu) (by rw [ec]; exact len) (by omega) (by rw [em 6 (by omega) (by omega)]; omega)
        rw [ec] at x2
        refine ⟨ans, C', m', ?_, fun ν hν hR => ?_, x3, fun k i hk => by rw [x4 k i hk, eC k i hk], fun i h1 h2 => by rw [x5 i h1 h2, em i h1 h2], by rw [em 6 (by omega) (by omega)] at x6; exact x6⟩
        · rw [B75_1]
          simp (disch := omega) only [V119, B119_0, n6.2.2, B75_2, k76, B75_3, k126, B75_4, B75_5, x1, xcI_some, xcV_some, if_pos, if_neg, xg_in, wr_of, if_true, if_false, or_true, true_or]
        · obtain ⟨ν1, v1, v2, v3⟩ := r180 ν hν
          obtain ⟨ν2, v4, v5, v6⟩ := x2 ν1 v2 (by rw [v3 143 (by omega)]; exact hR)
          have v1' : EV sc 180 [vR 139, vI t, vI 61] (SK, ν) = some (some (vI 1), (SK, ν1)) := v1
          have m3' := m3 ν hν hR
          refine ⟨ν2, ?_, v5, v3.tr v6⟩
          rw [B220_2]
          simp (disch := omega) only [hν, m3', B220_8, v1', B220_9, B220_10, B220_11, v4, xcI_some, xcV_some, if_pos, if_neg, xg_in, wr_of, if_true, if_false, or_true, true_or]
    · rw [bI_f r] at k76 m3
      obtain ⟨ans, C', m', x1, x2, x3, x4, x5, x6⟩ := ih (t + 1) C m h hS hw ht hl hKb len (by omega) (by omega)
      refine ⟨ans, C', m', ?_, fun ν hν hR => ?_, x3, x4, x5, x6⟩
      · rw [B75_1]
        simp (disch := omega) only [V119, B119_0, n6.2.2, B75_2, k76, B75_3, B75_5, x1, xcI_some, xcV_some, if_pos, if_neg, xg_in, wr_of, if_true, if_false, or_true, true_or]
      · obtain ⟨ν2, v4, v5, v6⟩ := x2 ν hν hR
        have m3' := m3 ν hν hR
        refine ⟨ν2, ?_, v5, v6⟩
        rw [B220_2]
        simp (disch := omega) only [hν, m3', B220_8, B220_10, B220_11, v4, xcI_some, xcV_some, if_pos, if_neg, xg_in, wr_of, if_true, if_false, or_true, true_or]
theorem K92 (h : yP C m) {K L : List Int} (hw : wk m = K ++ L) (hc : ∀ c ∈ chU m K, 0 ≤ c ∧ c < 60) (len : (chU m K).length ≤ 16) : EV sc 92 [vR 41, vI (chU m K).length] (SK, C) = some (some (vI (sL (chU m K) 0 1)), (SK, C)) := by
  have l : ∀ (k j : Nat) (i s p : Int), i = j → j + k = (chU m K).length → 0 ≤ s → s < 1000003 → 0 ≤ p → p < 1000003 → AT sc 92 1 [vR 41, vI (chU m K).length, vI s, vI p, vI i] [] (SK, C) = some (some (vI (sL ((chU m K).drop j) s p)), (SK, C)) := by
    intro k
    induction k with
    | zero =>
      intro j i s p hi e s0 s1 p0 p1
      rw [B92_1, List.drop_eq_nil_of_le (by omega)]
      simp (disch := omega) only [B92_3, sL, xcI_some, xcV_some, if_pos, if_neg, xg_in, wr_of, if_true, if_false, or_true, true_or]
    | succ k ih =>
      intro j i s p hi e s0 s1 p0 p1
      obtain ⟨c, hcj, hd⟩ := drop_cons (l := chU m K) (i := j) (by omega)
      have gc := hc c (List.mem_of_getElem? hcj)
      have k107 := K107 (sc := sc) h (x := i) (by omega) (by omega)
      rw [hw, hi, gl_K hcj] at k107
      subst hi
      have y0 : 0 ≤ (c + 1) * p := Int.mul_nonneg (by omega) p0
      have y1 : (c + 1) * p ≤ 60 * 1000002 := Int.mul_le_mul (by omega) (by omega) p0 (by omega)
      have ih1 := ih (j + 1) ((j : Int) + 1) ((s + (c + 1) * p) % 1000003) (p * 61 % 1000003) (by omega) (by omega) (by omega) (by omega) (by omega) (by omega)
      rw [hd, show sL (c :: (chU m K).drop (j + 1)) s p = sL ((chU m K).drop (j + 1)) ((s + (c + 1) * p) % 1000003) (p * 61 % 1000003) from rfl, B92_1]
      generalize hy : (c + 1) * p = y at *
      simp (disch := omega) only [k107, B92_2, hy, ih1, xcI_some, xcV_some, if_pos, if_neg, xg_in, wr_of, if_true, if_false, or_true, true_or]
  have l0 := l (chU m K).length 0 0 0 1 rfl (by omega) (by omega) (by omega) (by omega) (by omega)
  rw [List.drop_zero] at l0
  rw [V92, B92_0, l0]
theorem m220_13 {ν : xM} {Lc : List Int} (hR : isL (ν 143) Lc) (hc : ∀ c ∈ Lc, 0 ≤ c ∧ c < 60) (len : Lc.length ≤ 16) {top ans : Int} : AT sc 220 12 [vR 139, vI top, vI Lc.length, vI ans, vN, vN, vN, vN, vN, vN, vN] [] (SK, ν) = AT sc 220 14 [vR 139, vI top, vI Lc.length, vI ans, vL (sL Lc 0 1), vN, vN, vN, vN, vN, vN] [] (SK, ν) := by
  have l : ∀ (k j : Nat) (i s p : Int), i = j → j + k = Lc.length → 0 ≤ s → s < 1000003 → 0 ≤ p → p < 1000003 → AT sc 220 13 [vR 139, vI top, vI Lc.length, vI ans, vL s, vN, vL p, vN, vI i, vN, vN] [] (SK, ν) = AT sc 220 14 [vR 139, vI top, vI Lc.length, vI ans, vL (sL (Lc.drop j) s p), vN, vN, vN, vN, vN, vN] [] (SK, ν) := by
    intro k
    induction k with
    | zero =>
      intro j i s p hi e s0 s1 p0 p1
      rw [B220_13, List.drop_eq_nil_of_le (by omega)]
      simp (disch := omega) only [sL, xcI_some, xcV_some, if_pos, if_neg, xg_in, wr_of, if_true, if_false, or_true, true_or]
    | succ k ih =>
      intro j i s p hi e s0 s1 p0 p1
      obtain ⟨c, hcj, hd⟩ := drop_cons (l := Lc) (i := j) (by omega)
      have gc := hc c (List.mem_of_getElem? hcj)
      have rc : ν 143 i.toNat = c := by rw [show i.toNat = j by omega]; exact hR j c hcj
      have y0 : 0 ≤ (c + 1) * p := Int.mul_nonneg (by omega) p0
      have y1 : (c + 1) * p ≤ 60 * 1000002 := Int.mul_le_mul (by omega) (by omega) p0 (by omega)
      have ih1 := ih (j + 1) (i + 1) ((s + (c + 1) * p) % 1000003) (p * 61 % 1000003) (by omega) (by omega) (by omega) (by omega) (by omega) (by omega)
      rw [hd, show sL (c :: Lc.drop (j + 1)) s p = sL (Lc.drop (j + 1)) ((s + (c + 1) * p) % 1000003) (p * 61 % 1000003) from rfl, B220_13]
      generalize hy : (c + 1) * p = y at *
      simp (disch := omega) only [rc, wl_of, hy, ih1, xcI_some, xcV_some, if_pos, if_neg, xg_in, wr_of, if_true, if_false, or_true, true_or]
  have l0 := l Lc.length 0 0 0 1 rfl (by omega) (by omega) (by omega) (by omega) (by omega)
  rw [List.drop_zero] at l0
  rw [B220_12, l0]
def wrC (C : xM) (r l n s a : Int) : xM := up2 (up2 (up2 (up2 (up2 (up2 (up2 (up2 (up2 C 56 (4 * r).toNat l) 58 (4 * r).toNat l) 56 (4 * r + 1).toNat n) 58 (4 * r + 1).toNat n) 56 (4 * r + 2).toNat s) 58 (4 * r + 2).toNat s) 56 (4 * r + 3).toNat a) 58 (4 * r + 3).toNat a) 54 2 (r + 1)
def wrM (m : Nat → Int) (r l n s a : Int) : Nat → Int := up1 (up1 (up1 (up1 (up1 (up1 (up1 (up1 (up1 m 10 (r + 1)) (49296 + 4 * r).toNat l) (49296 + 4 * r + 1).toNat n) (49296 + 4 * r + 2).toNat s) (49296 + 4 * r + 3).toNat a) (51696 + 4 * r).toNat l) (51696 + 4 * r + 1).toNat n) (51696 + 4 * r + 2).toNat s) (51696 + 4 * r + 3).toNat a
theorem yK_wr (h : yK C m) {r l n s a : Int} (hr : m 10 = r) (r1 : r < 600) : yK (wrC C r l n s a) (wrM m r l n s a) := by
  obtain ⟨a1, a2, a3, a4, a5, a6, a7, a8, a9, a10, a11⟩ := h
  have n7 : 0 ≤ m 7 ∧ m 7 ≤ 60 := ⟨a4.1, a4.2.1⟩
  have n0 : 0 ≤ m 0 ∧ m 0 ≤ 60 ∧ C 2 3 = m 0 := a6.1
  have n1 : 0 ≤ m 1 ∧ m 1 ≤ 1152 ∧ C 2 4 = m 1 := a6.2.1
  have r0 : 0 ≤ r := by have := a3.1; omega
  have e : ∀ i : Nat, (i ≠ 10 ∧ ((i : Int) < 49296 + 4 * r ∨ 49296 + 4 * r + 4 ≤ i) ∧ ((i : Int) < 51696 + 4 * r ∨ 51696 + 4 * r + 4 ≤ i)) → wrM m r l n s a i = m i := fun i hi => by
    unfold wrM
    simp (disch := omega) only [up1_ne]
  have eC : ∀ k i : Nat, ((k ≠ 54 ∨ i ≠ 2) ∧ ((k ≠ 56 ∧ k ≠ 58) ∨ (i : Int) < 4 * r ∨ 4 * r + 4 ≤ i)) → wrC C r l n s a k i = C k i := fun k i hi => by
    unfold wrC
    simp (disch := omega) only [up2_ne]
  refine ⟨yT_fr a1 (fun k i hk => eC k i (by unfold dT at hk; omega)) (fun i hi => e i (by unfold aT at hi; omega)), yL_fr a2 (eC 1 6 (by omega)) (e 5 (by omega)), ?_, yA_fr a4 (fun k i hk => eC k i (by unfold dA at hk; omega)) (fun i hi => e i (by unfold aA at hi; omega)), yE_fr a5 a4 (fun k i hk => eC k i (by unfold dE at hk; omega)) (fun i _ _ => eC 5 i (by omega)) (by rw [e 1 (by omega)]; exact Int.le_refl _) (fun i hi => e i (by unfold aE at hi; omega)), yB_fr a6 ⟨eC 2 3 (by omega), eC 2 4 (by omega)⟩ ⟨e 0 (by omega), e 1 (by omega)⟩ (fun s _ _ k i hk => eC k i (by unfold dS at hk; omega)) (fun i _ _ => eC 5 i (by omega)) (fun s _ _ i hi => e i (by unfold aS at hi; omega)), yW_fr a7 ⟨a4.1, a4.2.1⟩ (fun k i hk => eC k i (by omega)) (fun i hi => e i (by omega)), yP_fr a8 (by rw [e 7 (by omega)]; exact Int.le_refl _) (fun k i hk => eC k i (by omega)) (fun i hi => e i (by omega)) (fun u u0 u1 _ => e (41964 + u).toNat (by omega)) (fun u u0 u1 h => by rw [e (41724 + u).toNat (by omega)]; exact h), yO_fr a9 a4 a6 a5 ⟨e 0 (by omega), e 7 (by omega)⟩ (fun s _ _ i hi => e i (by unfold aS at hi; omega)) (fun i hi => e i (by omega)), yM_fr a10 a4 (fun i hi => e i (by omega)), yN_fr a11 a4 (fun i hi => e i (by omega)) (fun u u0 u1 h => by rw [e (41724 + u).toNat (by omega)]; exact h) (fun u u0 u1 h => by rw [e (41724 + u).toNat (by omega)] at h; exact h)⟩
  have e10 : wrM m r l n s a 10 = r + 1 := by
    unfold wrM
    simp (disch := omega) only [up1_ne, up1_eq]
  unfold yG
  rw [e10]
  refine ⟨by omega, by omega, by unfold wrC; exact up2_eq, fun i i0 i1 => ?_⟩
  rcases (show i < 4 * r ∨ i = 4 * r ∨ i = 4 * r + 1 ∨ i = 4 * r + 2 ∨ i = 4 * r + 3 by omega) with x | x | x | x | x
  · rw [e _ (by omega), e _ (by omega), eC 56 _ (by omega), eC 58 _ (by omega)]
    exact a3.2.2.2 i i0 (by omega)
  all_goals
    subst x
    unfold wrC wrM
    simp (disch := omega) only [up2_ne, up2_eq, up1_ne, up1_eq, ← Int.add_assoc]
    exact ⟨trivial, trivial⟩
theorem K90 (h : yP C m) {K L : List Int} {top r l a : Int} (hw : wk m = K ++ L) (t0 : 0 ≤ top) (ht : m 9 = top + 1) (hl : m (49104 + top).toNat = K.length) (hc : ∀ c ∈ chU m K, 0 ≤ c ∧ c < 60) (len : (chU m K).length ≤ 16) (hr : C 54 2 = r) (r0 : 0 ≤ r) (r1 : r < 600) : EV sc 90 [vR 54, vI l, vR 41, vI a] (SK, C) = some (none, (SK, wrC C r l (chU m K).length (sL (chU m K) 0 1) a)) := by
  have k105 := K105 (sc := sc) h hw t0 ht hl
  have pC : ∀ D : xM, (∀ k i : Nat, (k = 41 ∨ k = 43 ∨ k = 45 ∨ k = 47 ∨ k = 49 ∨ k = 51 ∨ k = 53) → D k i = C k i) → yP D m := fun D hD => yP_fr h (Int.le_refl _) (fun k i hk => hD k i (by omega)) (fun _ _ => rfl) (fun _ _ _ _ => rfl) (fun _ _ _ x => x)
  have k91 : ∀ (D : xM) (w x : Int), D 54 2 = r → 0 ≤ w → w ≤ 3 → EV sc 91 [vR 54, vI w, vI x] (SK, D) = some (none, (SK, up2 (up2 D 56 (4 * r + w).toNat x) 58 (4 * r + w).toNat x)) := fun D w x d1 d2 d3 => by
    have e1 : r * 4 + w = 4 * r + w := by omega
    simp (disch := omega) only [V91, B91_0, B91_1, B91_2, d1, e1, S_55, S_57, st_in, up2_ne, xcI_some, xcV_some, if_pos, if_neg, xg_in, wr_of, if_true, if_false, or_true, true_or]
  have q1 := k91 C 0 l hr (by omega) (by omega)
  rw [Int.add_zero] at q1
  have q2 := k91 (up2 (up2 C 56 (4 * r).toNat l) 58 (4 * r).toNat l) 1 (chU m K).length (by simp (disch := omega) only [up2_ne, hr]) (by omega) (by omega)
  have hP2 := pC (up2 (up2 (up2 (up2 C 56 (4 * r).toNat l) 58 (4 * r).toNat l) 56 (4 * r + 1).toNat (chU m K).length) 58 (4 * r + 1).toNat (chU m K).length) (fun k i hk => by simp (disch := omega) only [up2_ne])
  have k92 := K92 (sc := sc) hP2 hw hc len
  have q3 := k91 (up2 (up2 (up2 (up2 C 56 (4 * r).toNat l) 58 (4 * r).toNat l) 56 (4 * r + 1).toNat (chU m K).length) 58 (4 * r + 1).toNat (chU m K).length) 2 (sL (chU m K) 0 1) (by simp (disch := omega) only [up2_ne, hr]) (by omega) (by omega)
  have q4 := k91 (up2 (up2 (up2 (up2 (up2 (up2 C 56 (4 * r).toNat l) 58 (4 * r).toNat l) 56 (4 * r + 1).toNat (chU m K).length) 58 (4 * r + 1).toNat (chU m K).length) 56 (4 * r + 2).toNat (sL (chU m K) 0 1)) 58 (4 * r + 2).toNat (sL (chU m K) 0 1)) 3 a (by simp (disch := omega) only [up2_ne, hr]) (by omega) (by omega)
  simp (disch := omega) only [V90, B90_0, B90_1, B90_2, B90_3, B90_4, B90_5, B90_6, k105, q1, q2, k92, q3, q4, up2_ne, hr, xcI_some, xcV_some, if_pos, if_neg, xg_in, wr_of, if_true, if_false, or_true, true_or]
  rfl
theorem m220_wr {Lc : List Int} {top ans r : Int} (hr : m 10 = r) (r0 : 0 ≤ r) (r1 : r < 600) (hc : ∀ c ∈ Lc, 0 ≤ c ∧ c < 60) (len : Lc.length ≤ 16) : ∀ ν : xM, ν 140 = m → isL (ν 143) Lc → ∃ ν' : xM, AT sc 220 12 [vR 139, vI top, vI Lc.length, vI ans, vN, vN, vN, vN, vN, vN, vN] [] (SK, ν) = AT sc 220 23 [vR 139, vI top, vI Lc.length, vI ans, vN, vN, vN, vN, vN, vN, vN] [] (SK, ν') ∧ ν' 140 = wrM m r (m 0) Lc.length (sL Lc 0 1) ans ∧ frR ν ν' := by
  intro ν hν hR
  have k13 := m220_13 (sc := sc) (top := top) (ans := ans) hR hc len
  have sb := sL_bd Lc 0 1 (by omega) (by omega)
  generalize sL Lc 0 1 = s at *
  refine ⟨up2 (up2 (up2 (up2 (up2 (up2 (up2 (up2 (up2 ν 140 10 (r + 1)) 140 (49296 + 4 * r).toNat (m 0)) 140 (49296 + 4 * r + 1).toNat Lc.length) 140 (49296 + 4 * r + 2).toNat s) 140 (49296 + 4 * r + 3).toNat ans) 140 (51696 + 4 * r).toNat (m 0)) 140 (51696 + 4 * r + 1).toNat Lc.length) 140 (51696 + 4 * r + 2).toNat s) 140 (51696 + 4 * r + 3).toNat ans, ?_, (by simp only [up2_row, hν]; rfl), (frR.up rfl).tr ((frR.up rfl).tr ((frR.up rfl).tr ((frR.up rfl).tr ((frR.up rfl).tr ((frR.up rfl).tr ((frR.up rfl).tr ((frR.up rfl).tr (frR.up rfl))))))))⟩
  rw [k13]
  simp (disch := omega) only [B220_14, hν, hr, B220_15, xcI_some, xcV_some, if_pos, if_neg, xg_in, wr_of, if_true, if_false, or_true, true_or]
  rw [B220_16]
  simp (disch := omega) only [B220_18, B220_19, B220_20, B220_21, B220_22, up2_ne, hν, xcI_some, xcV_some, if_pos, if_neg, xg_in, wr_of, if_true, if_false, or_true, true_or]
  rw [B220_16]
  simp (disch := omega) only [B220_17, B220_18, B220_19, B220_20, B220_21, B220_22, up2_ne, hν, xcI_some, xcV_some, if_pos, if_neg, xg_in, wr_of, if_true, if_false, or_true, true_or]
  rw [B220_16]
  simp (disch := omega) only [xcI_some, xcV_some, if_pos, if_neg, xg_in, wr_of, if_true, if_false, or_true, true_or]
/-- a run that fails: the row is doomed -/
theorem doom (h : yK C m) {top t : Int} (ht : m 9 = top + 1) (t0 : 0 ≤ top) (t8 : top < 8) (tn : t ≠ -1) : EV sc 115 [vR 41, vI t] (SK, C) = some (none, (SK, up2 (up2 C 49 top.toNat 1) 53 top.toNat t)) ∧ (∀ (ν : xM) (n : Int), ν 140 = m → AT sc 220 23 [vR 139, vI top, vI n, vI t, vN, vN, vN, vN, vN, vN, vN] [] (SK, ν) = some (none, (SK, up2 (up2 ν 140 (49120 + top).toNat 1) 140 (49136 + top).toNat t))) ∧ yK (up2 (up2 C 49 top.toNat 1) 53 top.toNat t) (up1 (up1 m (49120 + top).toNat 1) (49136 + top).toNat t) ∧ wk (up1 (up1 m (49120 + top).toNat 1) (49136 + top).toNat t) = wk m := by
  have a8 := h.2.2.2.2.2.2.2.1
  have n7 : 0 ≤ m 7 ∧ m 7 ≤ 60 := ⟨h.2.2.2.1.1, h.2.2.2.1.2.1⟩
  have h7 : C 41 7 = top + 1 := by rw [a8.1.2.2, ht]
  have e1 : top + 1 - 1 = top := by omega
  have e : ∀ i : Nat, (i : Int) ≠ 49120 + top → (i : Int) ≠ 49136 + top → up1 (up1 m (49120 + top).toNat 1) (49136 + top).toNat t i = m i := fun i h1 h2 => by rw [up1_ne (by omega), up1_ne (by omega)]
  have p1 : up1 (up1 m (49120 + top).toNat 1) (49136 + top).toNat t (49120 + top).toNat = 1 := by rw [up1_ne (by omega), up1_eq]
  have p2 : up1 (up1 m (49120 + top).toNat 1) (49136 + top).toNat t (49136 + top).toNat = t := up1_eq
  have eC : ∀ k i : Nat, (k ≠ 49 ∧ k ≠ 53) ∨ (i : Int) ≠ top → up2 (up2 C 49 top.toNat 1) 53 top.toNat t k i = C k i := fun k i hi => by rw [up2_ne (by omega), up2_ne (by omega)]
  have ew : allU (up1 (up1 m (49120 + top).toNat 1) (49136 + top).toNat t) (m 9).toNat = allU m (m 9).toNat := allU_fr _ fun r hr => by
    have := rowU_le (m := m) _ r hr
    have h8 := a8.2.2.1
    have n9 := a8.1
    exact ⟨e _ (by omega) (by omega), fun k hk => e _ (by omega) (by omega)⟩
  have e9 : up1 (up1 m (49120 + top).toNat 1) (49136 + top).toNat t 9 = m 9 := e 9 (by omega) (by omega)
  have ewk : wk (up1 (up1 m (49120 + top).toNat 1) (49136 + top).toNat t) = wk m := by
    unfold wk
    rw [e9, ew]
  refine ⟨?_, fun ν n hν => ?_, yQ_K (yQ_fr (yQ_of h) (fun i hi => e i (by omega) (by omega)) (fun k i hk => eC k i (by omega))) ?_, ewk⟩
  · simp (disch := omega) only [V115, B115_0, B115_1, B115_2, h7, e1, S_48, S_52, st_in, up2_ne, xcI_some, xcV_some, if_pos, if_neg, xg_in, wr_of, if_true, if_false, or_true, true_or]
  · simp (disch := omega) only [B220_23, B220_24, B220_25, xcI_some, xcV_some, if_pos, if_neg, xg_in, wr_of, if_true, if_false, or_true, true_or]
  · obtain ⟨q1, q2, q3, q4, q5, q6⟩ := a8
    unfold yP
    rw [e9, ew]
    refine ⟨by rw [eC 41 7 (by omega)]; exact q1, by rw [eC 41 6 (by omega)]; exact q2, q3, fun r r0 r1 => ?_, fun i u hi => ?_, ?_⟩
    · obtain ⟨g1, g2, g3, g4, g5, g6⟩ := q4 r r0 r1
      by_cases er : r = top
      · subst er
        rw [p1, p2, e _ (by omega) (by omega), e _ (by omega) (by omega), eC 47 _ (by omega), eC 51 _ (by omega)]
        exact ⟨g1, g2, by rw [up2_ne (by omega), up2_eq], g4, up2_eq, Or.inr rfl⟩
      · rw [e _ (by omega) (by omega), e _ (by omega) (by omega), e _ (by omega) (by omega), e _ (by omega) (by omega), eC 47 _ (by omega), eC 49 _ (by omega), eC 51 _ (by omega), eC 53 _ (by omega)]
        exact ⟨g1, g2, g3, g4, g5, g6⟩
    · obtain ⟨g1, g2, g3, g4, g5⟩ := q5 i u hi
      rw [e _ (by omega) (by omega), e 7 (by omega) (by omega), e (41724 + u).toNat (by omega) (by omega), eC 43 _ (by omega), eC 45 _ (by omega)]
      exact ⟨g1, g2, g3, g4, g5⟩
    · rw [chU_fr (m := m) _ (fun u hu => by
        obtain ⟨i, hi⟩ := List.getElem?_of_mem hu
        have g := q5 i u hi
        exact e _ (by omega) (by omega))]
      exact q6
end

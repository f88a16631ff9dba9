/-! the topmost row dropped, cut, failed -/
def dtC (C : xM) (T N top : Int) : xM := up2 (up2 (cp2 (cp2 C 43 T.toNat 43 0 (N - T).toNat) 45 T.toNat 45 0 (N - T).toNat) 41 6 (N - T)) 41 7 top
section
variable {sc : Nat × (Nat → Int)} {C : xM} {m : Nat → Int}
theorem K113 {T N top : Int} (h7 : C 41 7 = top + 1) (t0 : 0 ≤ top) (t8 : top < 8) (hT : C 47 top.toNat = T) (hN : C 41 6 = N) (N8 : N ≤ 8) (T0 : 0 ≤ T) (TN : T ≤ N) : EV sc 113 [vR 41] (SK, C) = some (none, (SK, dtC C T N top)) := by
  have m1 := M_42 (sc := sc) (μ := C) (f := T) (t := 0) (l := N - T) T0 (by omega) (by omega) (by omega) (by omega)
  have m2 := M_44 (sc := sc) (μ := cp2 C 43 T.toNat 43 (0 : Int).toNat (N - T).toNat) (f := T) (t := 0) (l := N - T) T0 (by omega) (by omega) (by omega) (by omega)
  have e1 : top + 1 - 1 = top := by omega
  have e2 : 0 + T = T := by omega
  have e3 : N - 0 - T = N - T := by omega
  simp (disch := omega) only [V113, B113_0, B113_1, B113_2, B113_3, V101, B101_0, B101_1, B101_2, B101_3, V112, B112_0, B112_1, B112_2, h7, e1, G_46, gt_in, hT, hN, e2, e3, m1, m2, cp2_out, up2_ne, xcI_some, xcV_some, if_pos, if_neg, xg_in, wr_of, if_true, if_false, or_true, true_or]
  rfl
theorem uP_dt {K L : List Int} {top : Int} (h : uP C m (K ++ L)) : uP (dtC C K.length (K ++ L).length top) m L := by
  obtain ⟨h1, h2, h3⟩ := h
  rw [List.length_append] at h1 h2 ⊢
  have el : ((K.length + L.length : Nat) : Int) - K.length = L.length := by omega
  refine ⟨?_, by omega, fun i u hi => ?_⟩
  · unfold dtC
    rw [up2_ne (by omega), up2_eq]
    omega
  · have hil := (List.getElem?_eq_some_iff.mp hi).1
    have g := h3 (K.length + i) u (by rw [List.getElem?_append_right (by omega), show K.length + i - K.length = i by omega]; exact hi)
    have c43 : dtC C K.length ((K.length + L.length : Nat) : Int) top 43 i = C 43 (K.length + i) := by
      unfold dtC
      rw [el, up2_ne (by omega), up2_ne (by omega), cp2_out (by omega), cp2_in rfl (by omega) (by omega), show ((K.length : Int)).toNat + (i - 0) = K.length + i by omega]
    have c45 : dtC C K.length ((K.length + L.length : Nat) : Int) top 45 i = C 45 (K.length + i) := by
      unfold dtC
      rw [el, up2_ne (by omega), up2_ne (by omega), cp2_in rfl (by omega) (by omega), cp2_out (by omega), show ((K.length : Int)).toNat + (i - 0) = K.length + i by omega]
    rw [c43, c45]
    exact g
theorem dtC_ne {T N top : Int} {k i : Nat} (h : k ≠ 41 ∧ k ≠ 43 ∧ k ≠ 45) : dtC C T N top k i = C k i := by
  unfold dtC
  simp (disch := omega) only [up2_ne, cp2_out]
theorem dtC_fr {T N top : Int} : frC C (dtC C T N top) := fun j hj => by
  funext i
  exact dtC_ne (by omega)
/-- the topmost row dropped -/
theorem drop_top {top : Int} {K L : List Int} (hQ : yQ C m) (h : tP C m top K L) : EV sc 113 [vR 41] (SK, C) = some (none, (SK, dtC C K.length (K ++ L).length top)) ∧ yK (dtC C K.length (K ++ L).length top) (up1 m 9 top) ∧ wk (up1 m 9 top) = L := by
  obtain ⟨⟨h1, h2, h3, h4⟩, hU, hn, hr, hL, hl, hT, hrow⟩ := h
  have hT1 := hT.1
  rw [hl] at hT1
  have e : allU (up1 m 9 top) top.toNat = L := by
    rw [← hL]
    exact allU_fr _ fun r hr => ⟨up1_ne (by omega), fun k hk => up1_ne (by omega)⟩
  have ew : wk (up1 m 9 top) = L := by
    unfold wk
    rw [up1_eq]
    exact e
  have n7 : 0 ≤ m 7 ∧ m 7 ≤ 60 := ⟨hQ.2.2.2.1.1, hQ.2.2.2.1.2.1⟩
  have hU2 : uP (dtC C K.length (K ++ L).length top) (up1 m 9 top) L := uP_fr (uP_dt (top := top) hU) n7.2 (fun _ _ _ => rfl) (fun i hi => up1_ne (by omega))
  refine ⟨K113 h4 h2 h3 hT1 hU.1 (by have := hU.2.1; omega) (by omega) (by rw [List.length_append]; omega), yQ_K (yQ_fr hQ (fun i hi => up1_ne hi.1) (fun k i hk => dtC_ne (by omega))) ?_, ew⟩
  unfold yP
  rw [up1_eq, e]
  refine ⟨⟨by omega, by omega, by unfold dtC; exact up2_eq⟩, hU2.1, hU2.2.1, fun r r0 r1 => ?_, hU2.2.2, ?_⟩
  · obtain ⟨x, y⟩ := hrow r r0 r1
    rw [dtC_ne (by omega), dtC_ne (by omega), dtC_ne (by omega), dtC_ne (by omega), up1_ne (by omega), up1_ne (by omega), up1_ne (by omega), up1_ne (by omega)]
    exact ⟨x.1, y, x.2.1, x.2.2.1, x.2.2.2.1, x.2.2.2.2⟩
  · rw [chU_fr (m := m) L (fun u hu => by
      obtain ⟨i, hi⟩ := List.getElem?_of_mem hu
      have g := hU2.2.2 i u hi
      have g7 : up1 m 9 top 7 = m 7 := up1_ne (by omega)
      exact up1_ne (by omega))]
    exact List.Nodup.sublist (chU_sub (List.sublist_append_right K L)) hn
theorem settle_empty {top n bg : Int} {L : List Int} (hQ : yQ C m) (h : tP C m top [] L) : ∃ (C' : xM) (m' : Nat → Int), EV sc 78 [vR 1] (SK, C) = some (none, (SK, C')) ∧ rS m (fun ν => AT sc 221 9 [vR 139, vI n, vI bg, vI 1, vI top] [] (SK, ν)) (fun ν => AT sc 221 15 [vR 139, vI n, vI bg, vI 1, vN] [] (SK, ν)) m' ∧ frC C C' ∧ yK C' m' ∧ m' 10 = m 10 ∧ wk m' = L ∧ m' 9 = top := by
  obtain ⟨d1, d2, d3⟩ := drop_top (sc := sc) hQ h
  obtain ⟨⟨h1, h2, h3, h4⟩, hU, hn, hr, hL, hl, hT, hrow⟩ := h
  have e1 : top + 1 - 1 = top := by omega
  have hT1 := hT.1
  rw [hl] at hT1
  have hT2 : C 47 top.toNat = 0 := hT1
  have hl2 : m (49104 + top).toNat = 0 := hl
  refine ⟨_, up1 m 9 top, ?_, fun ν hν => ⟨up2 ν 140 9 top, ?_, by rw [up2_row, hν], .up rfl⟩, dtC_fr, d2, up1_ne (by omega), d3, up1_eq⟩
  · simp (disch := omega) only [V78, B78_0, B78_1, B78_3, B78_4, B78_5, B78_6, V101, B101_0, B101_1, B101_2, B101_3, h4, e1, G_46, gt_in, hT2, d1, xcI_some, xcV_some, if_pos, if_neg, xg_in, wr_of, if_true, if_false, or_true, true_or]
  · show AT sc 221 9 [vR 139, vI n, vI bg, vI 1, vI top] [] (SK, ν) = _
    rw [B221_9]
    simp (disch := omega) only [hν, hl2, h1, e1, xcI_some, xcV_some, if_pos, if_neg, xg_in, wr_of, if_true, if_false, or_true, true_or]
theorem yQ_test {c t : Int} (h : yQ C m) (c0 : 0 ≤ c) (c1 : c < m 7) (hw : m (41724 + c).toNat ≠ 0 ∧ m (41724 + c).toNat ≠ 1) : yQ (up2 C 16 c.toNat t) (up1 m (41844 + c).toNat t) := by
  obtain ⟨a1, a2, a3, a4, a5, a6, a7, a9, a10, a11⟩ := h
  have n7 : 0 ≤ m 7 ∧ m 7 ≤ 60 := ⟨a4.1, a4.2.1⟩
  have n0 : 0 ≤ m 0 ∧ m 0 ≤ 60 ∧ C 2 3 = m 0 := a6.1
  have n1 : 0 ≤ m 1 ∧ m 1 ≤ 1152 ∧ C 2 4 = m 1 := a6.2.1
  have e : ∀ i : Nat, (i ≠ (41844 + c).toNat) → up1 m (41844 + c).toNat t i = m i := fun i hi => up1_ne hi
  have eC : ∀ k i : Nat, (k ≠ 16 ∨ i ≠ c.toNat) → up2 C 16 c.toNat t k i = C k i := fun k i hi => up2_ne hi
  refine ⟨yT_fr a1 (fun k i hk => eC k i (by unfold dT at hk; omega)) (fun i hi => e i (by unfold aT at hi; omega)), yL_fr a2 (eC 1 6 (by omega)) (e 5 (by omega)), yG_fr a3 (fun k i hk => eC k i (by omega)) (fun i hi => e i (by omega)), ?_, yE_fr a5 a4 (fun k i hk => eC k i (by unfold dE at hk; omega)) (fun i _ _ => eC 5 i (by omega)) (by rw [e 1 (by omega)]; exact Int.le_refl _) (fun i hi => e i (by unfold aE at hi; omega)), yB_fr a6 ⟨eC 2 3 (by omega), eC 2 4 (by omega)⟩ ⟨e 0 (by omega), e 1 (by omega)⟩ (fun s _ _ k i hk => eC k i (by unfold dS at hk; omega)) (fun i _ _ => eC 5 i (by omega)) (fun s _ _ i hi => e i (by unfold aS at hi; omega)), yW_fr a7 ⟨a4.1, a4.2.1⟩ (fun k i hk => eC k i (by omega)) (fun i hi => e i (by omega)), yO_fr a9 a4 a6 a5 ⟨e 0 (by omega), e 7 (by omega)⟩ (fun s _ _ i hi => e i (by unfold aS at hi; omega)) (fun i hi => e i (by omega)), yM_fr a10 a4 (fun i hi => e i (by omega)), ?_⟩
  · exact yA_set a4 (Or.inr (Or.inr (Or.inr (Or.inr (Or.inl ⟨rfl, rfl⟩))))) c0 c1 up2_eq up1_eq (fun k i _ hi => eC k i hi) (fun i _ hi => e i hi)
  · refine ⟨fun s s0 s1 => ?_, fun d d0 d1 hd => ?_⟩
    · rw [e 0 (by omega)] at s1
      obtain ⟨x, x0, x1, x2, x3⟩ := a11.1 s s0 s1
      exact ⟨x, x0, by rw [e 7 (by omega)]; exact x1, by rw [e _ (by omega)]; exact x2, by rw [e _ (by omega)]; exact x3⟩
    · rw [e 7 (by omega)] at d1
      rw [e (41724 + d).toNat (by omega)] at hd
      by_cases ed : d = c
      · rw [ed] at hd
        omega
      · rw [e (41844 + d).toNat (by omega)]
        exact a11.2 d d0 d1 hd
theorem settle_fail {top n bg u : Int} {L : List Int} (hQ : yQ C m) (h : tP C m top [u] L) (hd : m (49120 + top).toNat ≠ 0) (hu : rdy m u) : ∃ (C' : xM) (m' : Nat → Int), EV sc 78 [vR 1] (SK, C) = some (none, (SK, C')) ∧ rS m (fun ν => AT sc 221 9 [vR 139, vI n, vI bg, vI 1, vI top] [] (SK, ν)) (fun ν => AT sc 221 15 [vR 139, vI n, vI bg, vI 1, vN] [] (SK, ν)) m' ∧ frC C C' ∧ yK C' m' ∧ m' 10 = m 10 ∧ wk m' = L ∧ m' 9 = top := by
  obtain ⟨⟨h1, h2, h3, h4⟩, hU, hn, hr, hL, hl, hT, hrow⟩ := id h
  obtain ⟨a1, a2, a3, a4, a5, a6, a7, a9, a10, a11⟩ := id hQ
  have n7 : 0 ≤ m 7 ∧ m 7 ≤ 60 := ⟨a4.1, a4.2.1⟩
  have n8 : 0 ≤ m 8 ∧ m 8 ≤ 60 := ⟨a7.1, a7.2.1⟩
  obtain ⟨g1, g2, g3, g4, g5⟩ := hU.2.2 0 u rfl
  have gp := (a4.2.2.2 u g3 g4).2.2.2
  have e1 : top + 1 - 1 = top := by omega
  have hT1 := hT.1
  rw [hl] at hT1
  have hT2 : C 47 top.toNat = 1 := hT1
  have hl2 : m (49104 + top).toNat = 1 := hl
  have hcell : m (49168 + 8 * top).toNat = u := by
    have q : (rowU m top.toNat)[0]? = some (m (49168 + (8 * top.toNat + 0))) := by
      unfold rowU
      rw [List.getElem?_map, List.getElem?_range (by rw [show 49104 + top.toNat = (49104 + top).toNat by omega, hl2]; omega)]
      rfl
    rw [hr] at q
    rw [show (49168 + 8 * top).toNat = 49168 + (8 * top.toNat + 0) by omega]
    exact (Option.some.inj q).symm
  have htest : C 53 top.toNat = m (49136 + top).toNat := hT.2.2.2.1
  have hp : m (41964 + u).toNat = -1 ∨ m (41724 + m (41964 + u).toNat).toNat = 1 := hu.2.imp id (fun x => x.1)
  obtain ⟨pu, pu0, pu1, hpu⟩ := a7.2.2.2.2.2 u g3 g4 hu.1.1
  generalize ht : m (49136 + top).toNat = t at *
  generalize hP : m (41964 + u).toNat = p at *
  have hQ9 : yQ C (up1 m 9 top) := yQ_fr hQ (fun i hi => up1_ne hi.1) (fun _ _ _ => rfl)
  have o9 : ∀ i : Nat, i ≠ 9 → up1 m 9 top i = m i := fun i hi => up1_ne hi
  obtain ⟨C1, m1, f1, f1D, f2, f3, f4, f5, f6, f7, f8', f9, f10, f11, _⟩ := unit_out (sc := sc) (w := 6) (pu := pu) hQ9 g3 (by rw [o9 7 (by omega)]; exact g4) pu0 (by rw [o9 8 (by omega)]; exact pu1) (by unfold lnA; rw [o9 _ (by omega)]; exact hpu) (by omega) (by omega) (by rw [o9 (41964 + u).toNat (by omega), hP]; exact hp.imp id (fun x => by
    by_cases ep : p = -1
    · rw [ep] at x ⊢
      rw [o9 _ (by decide)]
      exact x
    · have gp' := gp.elim (fun x => absurd x ep) id
      rw [o9 _ (by omega)]
      exact x))
  rw [o9 (41964 + u).toNat (by omega), hP] at f5 f9 f11
  have f8 : ∀ i : Nat, i ≠ 9 → i ≠ 8 → (i < 41724 ∨ 41784 ≤ i) → (i < 49044 ∨ 49104 ≤ i) → m1 i = m i := fun i h0 h1 h2 h3 => by rw [f8' i h1 h2 h3, o9 i h0]
  have m19 : m1 9 = top := by rw [f8' 9 (by omega) (by omega) (by omega), up1_eq]
  have hC16 : C1 16 = C 16 := f3 16 (by omega) (by omega) (by omega)
  have m17 : m1 7 = m 7 := f8 7 (by omega) (by omega) (by omega) (by omega)
  have q34u : EV sc 34 [vR 6, vI u] (SK, C) = some (some (vI p), (SK, C)) := by
    have := q34 (sc := sc) a4 g3 g4
    rw [hP] at this
    exact this
  have k100 : EV sc 100 [vR 41, vI 0] (SK, C) = some (some (vI u), (SK, C)) := by
    have i0 : (0 : Int).toNat = 0 := rfl
    simp (disch := omega) only [V100, B100_0, B100_1, G_42, gt_in, i0, g1, xcI_some, xcV_some, if_pos, if_neg, xg_in, wr_of, if_true, if_false, or_true, true_or]
  have k102 : ∀ D : xM, D 41 7 = top + 1 → D 53 top.toNat = t → EV sc 102 [vR 41] (SK, D) = some (some (vI t), (SK, D)) := fun D d1 d2 => by
    simp (disch := omega) only [V102, B102_0, B102_1, d1, e1, G_52, gt_in, d2, xcI_some, xcV_some, if_pos, if_neg, xg_in, wr_of, if_true, if_false, or_true, true_or]
  have stp : ∃ (C2 : xM), EV sc 79 [vR 1] (SK, C) = some (none, (SK, C2)) ∧ yQ C2 (tsM m1 u p t) ∧ frC C C2 ∧ (∀ k : Nat, k ≠ 10 → k ≠ 16 → k ≠ 38 → k ≠ 40 → C2 k = C k) := by
    by_cases ep : p = -1
    · obtain ⟨D', e2, e3, e4⟩ := f1D (up2 C 16 u.toNat t) (fun k hk => up2_k hk)
      have eD : D' = up2 C1 16 u.toNat t := by
        funext k
        by_cases hk : k = 16
        · subst hk
          rw [e4, up2_row, up2_row, hC16]
        · rw [e3 k hk, up2_k hk]
      refine ⟨D', ?_, ?_, ?_, fun k h1 h2 h3 h4 => by rw [e3 k h2, f3 k h1 h3 h4]⟩
      · simp (disch := omega) only [V79, B79_0, B79_1, B79_2, B79_3, B79_4, B79_6, B79_7, k100, q34u, k102 C h4 htest, V32, B32_0, B32_1, S_15, st_in, ep, e2, xcI_some, xcV_some, if_pos, if_neg, xg_in, wr_of, if_true, if_false, or_true, true_or]
      · rw [eD]
        unfold tsM
        rw [if_pos ep]
        exact yQ_test f4 g3 (by omega) (by omega)
      · rw [eD]
        exact f2.tr (.up (by omega))
    · have gp' := gp.elim (fun x => absurd x ep) id
      obtain ⟨D', e2, e3, e4⟩ := f1D (up2 (up2 C 16 u.toNat t) 16 p.toNat t) (fun k hk => by rw [up2_k hk, up2_k hk])
      have eD : D' = up2 (up2 C1 16 u.toNat t) 16 p.toNat t := by
        funext k
        by_cases hk : k = 16
        · subst hk
          rw [e4, up2_row, up2_row, up2_row, up2_row, hC16]
        · rw [e3 k hk, up2_k hk, up2_k hk]
      refine ⟨D', ?_, ?_, ?_, fun k h1 h2 h3 h4 => by rw [e3 k h2, f3 k h1 h3 h4]⟩
      · have k2 := k102 (up2 C 16 u.toNat t) (by rw [up2_ne (by omega)]; exact h4) (by rw [up2_ne (by omega)]; exact htest)
        simp (disch := omega) only [V79, B79_0, B79_1, B79_2, B79_3, B79_4, B79_5, B79_6, B79_7, k100, q34u, k102 C h4 htest, V32, B32_0, B32_1, S_15, st_in, k2, e2, xcI_some, xcV_some, if_pos, if_neg, xg_in, wr_of, if_true, if_false, or_true, true_or]
      · rw [eD]
        unfold tsM
        rw [if_neg ep]
        have y := yQ_test (t := t) f4 g3 (by omega) (by omega)
        exact yQ_test y gp'.1 (by rw [up1_ne (by omega)]; omega) (by rw [up1_ne (by omega), f11 ep]; omega)
      · rw [eD]
        exact f2.tr ((frC.up (by omega)).tr (.up (by omega)))
  obtain ⟨C2, s1, s2, s3, s4⟩ := stp
  have tsn : ∀ i : Nat, (i < 41844 ∨ 41904 ≤ i) → tsM m1 u p t i = m1 i := fun i hi => by
    unfold tsM
    by_cases ep : p = -1
    · rw [if_pos ep, up1_ne (by omega)]
    · have gp' := gp.elim (fun x => absurd x ep) id
      rw [if_neg ep, up1_ne (by omega), up1_ne (by omega)]
  have ts0 : ∀ i : Nat, i ≠ 9 → i ≠ 8 → (i < 41724 ∨ 41904 ≤ i ∨ (41784 ≤ i ∧ i < 41844)) → (i < 49044 ∨ 49104 ≤ i) → tsM m1 u p t i = m i := fun i h0 h1 h2 h3 => by rw [tsn i (by omega), f8 i h0 h1 (by omega) h3]
  have hwh : ∀ c : Int, 0 ≤ c → c < m 7 → m (41724 + c).toNat ≠ 0 → tsM m1 u p t (41724 + c).toNat ≠ 0 := fun c c0 c1 hc => by
    rw [tsn _ (by omega)]
    by_cases ec : c = u
    · rw [ec, f10]; omega
    · by_cases ec2 : c = p
      · rw [ec2, f11 (by omega)]; omega
      · rw [f9 c c0 (by rw [o9 7 (by omega)]; exact c1) ec ec2, o9 _ (by omega)]
        exact hc
  have z9 : tsM m1 u p t 9 = top := by rw [tsn 9 (by omega)]; exact m19
  have zu : ∀ i : Nat, i ≠ 9 → up1 (tsM m1 u p t) 9 (top + 1) i = tsM m1 u p t i := fun i hi => up1_ne hi
  have hQz : yQ C2 (up1 (tsM m1 u p t) 9 (top + 1)) := yQ_fr s2 (fun i hi => up1_ne hi.1) (fun _ _ _ => rfl)
  have hP2 : tP C2 (up1 (tsM m1 u p t) 9 (top + 1)) top [u] L := by
    have t7 : up1 (tsM m1 u p t) 9 (top + 1) 7 = m 7 := by rw [zu 7 (by omega)]; exact ts0 7 (by omega) (by omega) (by omega) (by omega)
    have er : ∀ i : Nat, 49104 ≤ i → i < 49296 → up1 (tsM m1 u p t) 9 (top + 1) i = m i := fun i h1 h2 => by rw [zu i (by omega)]; exact ts0 i (by omega) (by omega) (by omega) (by omega)
    refine ⟨⟨up1_eq, h2, h3, by rw [s4 41 (by omega) (by omega) (by omega) (by omega)]; exact h4⟩, ⟨by rw [s4 41 (by omega) (by omega) (by omega) (by omega)]; exact hU.1, hU.2.1, fun i v hv => ?_⟩, ?_, ?_, ?_, by rw [er _ (by omega) (by omega)]; exact hl, ?_, fun r r0 r1 => ?_⟩
    · obtain ⟨y1, y2, y3, y4, y5⟩ := hU.2.2 i v hv
      rw [s4 43 (by omega) (by omega) (by omega) (by omega), s4 45 (by omega) (by omega) (by omega) (by omega), t7, zu (41964 + v).toNat (by omega), ts0 (41964 + v).toNat (by omega) (by omega) (by omega) (by omega), zu (41724 + v).toNat (by omega)]
      exact ⟨y1, y2, y3, y4, hwh v y3 y4 y5⟩
    · rw [chU_fr (m := m) _ (fun v hv => by
        obtain ⟨i, hi⟩ := List.getElem?_of_mem hv
        have g := hU.2.2 i v hi
        rw [zu _ (by omega)]
        exact ts0 _ (by omega) (by omega) (by omega) (by omega))]
      exact hn
    · rw [← hr]
      exact rowU_fr (er _ (by omega) (by omega)) (fun k hk => er _ (by omega) (by rw [show 49104 + top.toNat = (49104 + top).toNat by omega, hl2] at hk; omega))
    · rw [← hL]
      exact allU_fr _ fun r hr' => ⟨er _ (by omega) (by omega), fun k hk => er _ (by omega) (by
        have g := rowU_le (m := m) top.toNat r hr'
        have g8 := hU.2.1
        rw [hL] at g
        rw [List.length_append] at g8
        omega)⟩
    · unfold rwC
      rw [s4 47 (by omega) (by omega) (by omega) (by omega), s4 49 (by omega) (by omega) (by omega) (by omega), s4 51 (by omega) (by omega) (by omega) (by omega), s4 53 (by omega) (by omega) (by omega) (by omega), er _ (by omega) (by omega), er _ (by omega) (by omega), er _ (by omega) (by omega), er _ (by omega) (by omega)]
      rw [ht]
      have hT' := hT
      unfold rwC at hT'
      rw [ht] at hT'
      exact hT'
    · obtain ⟨x, y⟩ := hrow r r0 r1
      unfold rwC at x ⊢
      rw [s4 47 (by omega) (by omega) (by omega) (by omega), s4 49 (by omega) (by omega) (by omega) (by omega), s4 51 (by omega) (by omega) (by omega) (by omega), s4 53 (by omega) (by omega) (by omega) (by omega), er _ (by omega) (by omega), er _ (by omega) (by omega), er _ (by omega) (by omega), er _ (by omega) (by omega)]
      exact ⟨x, y⟩
  obtain ⟨d1, d2, d3⟩ := drop_top (sc := sc) hQz hP2
  have ez : up1 (up1 (tsM m1 u p t) 9 (top + 1)) 9 top = tsM m1 u p t := by
    funext i
    by_cases e : i = 9
    · rw [e, up1_eq, z9]
    · rw [up1_ne e, up1_ne e]
  rw [ez] at d2 d3
  have c2T : C2 47 top.toNat = 1 := by rw [s4 47 (by omega) (by omega) (by omega) (by omega)]; exact hT2
  refine ⟨_, tsM m1 u p t, ?_, fun ν hν => ?_, s3.tr dtC_fr, d2, by rw [ts0 10 (by omega) (by omega) (by omega) (by omega)], d3, z9⟩
  · simp (disch := omega) only [V78, B78_0, B78_1, B78_3, B78_4, B78_5, B78_6, V101, B101_0, B101_1, B101_2, B101_3, h4, e1, G_46, gt_in, hT2, s1, d1, xcI_some, xcV_some, if_pos, if_neg, xg_in, wr_of, if_true, if_false, or_true, true_or]
  · obtain ⟨ν1, v1, v2, v3⟩ := f5 t (up2 ν 140 9 top) (by rw [up2_row, hν])
    have v1' : EV sc 210 [vR 139, vI u, vI 6, vI t] (SK, up2 ν 140 9 top) = some (none, (SK, ν1)) := v1
    refine ⟨ν1, ?_, v2, (frR.up rfl).tr v3⟩
    show AT sc 221 9 [vR 139, vI n, vI bg, vI 1, vI top] [] (SK, ν) = AT sc 221 15 [vR 139, vI n, vI bg, vI 1, vN] [] (SK, ν1)
    rw [B221_9]
    simp (disch := omega) only [hν, hl2, B221_10, B221_12, B221_14, h1, e1, up2_ne, hcell, ht, v1', xcI_some, xcV_some, if_pos, if_neg, xg_in, wr_of, if_true, if_false, or_true, true_or]
theorem allU_ge {m : Nat → Int} : ∀ n : Nat, (∀ r : Nat, r < n → 1 ≤ m (49104 + r)) → n ≤ (allU m n).length := by
  intro n
  induction n with
  | zero => intro _; exact Nat.zero_le _
  | succ n ih =>
    intro h
    rw [allU_s, List.length_append, rowU_len]
    have := ih (fun r hr => h r (by omega))
    have := h n (by omega)
    omega
def htC (C : xM) (T top t : Int) : xM := up2 (up2 (up2 (up2 (up2 (up2 (up2 (up2 C 47 top.toNat (T - T / 2)) 49 top.toNat 0) 51 top.toNat 0) 47 (top + 1).toNat (T / 2)) 49 (top + 1).toNat 0) 51 (top + 1).toNat 1) 53 (top + 1).toNat t) 41 7 (top + 2)
theorem K116 {T top t : Int} (h7 : C 41 7 = top + 1) (t0 : 0 ≤ top) (t8 : top < 7) (hT : C 47 top.toNat = T) (T2 : 2 ≤ T) (T8 : T ≤ 8) (h53 : C 53 top.toNat = t) : EV sc 116 [vR 41] (SK, C) = some (none, (SK, htC C T top t)) := by
  have e1 : top + 1 - 1 = top := by omega
  have e2 : top + 1 + 1 = top + 2 := by omega
  have k101 : EV sc 101 [vR 41] (SK, C) = some (some (vI T), (SK, C)) := by
    simp (disch := omega) only [V101, B101_0, B101_1, B101_2, B101_3, h7, e1, G_46, gt_in, hT, xcI_some, xcV_some, if_pos, if_neg, xg_in, wr_of, if_true, if_false, or_true, true_or]
  simp (disch := omega) only [V116, B116_0, B116_1, B116_2, B116_3, B116_4, B116_5, B116_6, B116_7, k101, V110, B110_0, B110_1, B110_2, B110_3, B110_4, h7, e1, S_46, S_48, S_50, S_52, st_in, G_52, gt_in, up2_ne, h53, e2, xcI_some, xcV_some, if_pos, if_neg, xg_in, wr_of, if_true, if_false, or_true, true_or]
  rfl
theorem settle_cut {top n bg : Int} {K L : List Int} (hQ : yQ C m) (h : tP C m top K L) (hd : m (49120 + top).toNat ≠ 0) (hk : 2 ≤ K.length) : ∃ (C' : xM) (m' : Nat → Int), EV sc 78 [vR 1] (SK, C) = some (none, (SK, C')) ∧ rS m (fun ν => AT sc 221 9 [vR 139, vI n, vI bg, vI 1, vI top] [] (SK, ν)) (fun ν => AT sc 221 15 [vR 139, vI n, vI bg, vI 1, vN] [] (SK, ν)) m' ∧ frC C C' ∧ yK C' m' ∧ m' 10 = m 10 ∧ wk m' = K ++ L ∧ m' 9 = top + 2 := by
  obtain ⟨⟨h1, h2, h3, h4⟩, hU, hn, hr, hL, hl, hT, hrow⟩ := id h
  obtain ⟨a1, a2, a3, a4, a5, a6, a7, a9, a10, a11⟩ := id hQ
  have n7 : 0 ≤ m 7 ∧ m 7 ≤ 60 := ⟨a4.1, a4.2.1⟩
  have g8 := hU.2.1
  rw [List.length_append] at g8
  have lge := allU_ge (m := m) top.toNat (fun r hr => by
    have := (hrow r (by omega) (by omega)).2
    rw [show (49104 + (r : Int)).toNat = 49104 + r by omega] at this
    exact this)
  rw [hL] at lge
  have t7 : top < 7 := by omega
  have hT1 := hT.1
  rw [hl] at hT1
  have k116 := K116 (sc := sc) h4 h2 t7 hT1 (by omega) (by omega) hT.2.2.2.1
  have e1 : top + 1 - 1 = top := by omega
  have cellK : ∀ (i : Nat) (u : Int), K[i]? = some u → m (49168 + 8 * top + (i : Int)).toNat = u := fun i u hu => by
    have hil := (List.getElem?_eq_some_iff.mp hu).1
    have q : (rowU m top.toNat)[i]? = some (m (49168 + (8 * top.toNat + i))) := by
      unfold rowU
      rw [List.getElem?_map, List.getElem?_range (by rw [show 49104 + top.toNat = (49104 + top).toNat by omega, hl]; omega)]
      rfl
    rw [hr] at q
    rw [hu] at q
    rw [show (49168 + 8 * top + (i : Int)).toNat = 49168 + (8 * top.toNat + i) by omega]
    exact (Option.some.inj q).symm
  generalize hTe : (K.length : Int) = T at *
  generalize ht : m (49136 + top).toNat = t at *
  have r212 := m212 (sc := sc) (m := m) (t := t) (r := top + 1) h1 (by omega) (by omega)
  have nrn : ∀ i : Nat, (i ≠ 9 ∧ (i : Int) ≠ 49104 + (top + 1) ∧ (i : Int) ≠ 49120 + (top + 1) ∧ (i : Int) ≠ 49136 + (top + 1) ∧ (i : Int) ≠ 49152 + (top + 1)) → nrM m (top + 1) t i = m i := fun i hi => by
    unfold nrM
    simp (disch := omega) only [up1_ne]
  have nr9 : nrM m (top + 1) t 9 = top + 2 := by
    unfold nrM
    simp (disch := omega) only [up1_ne, up1_eq]
    omega
  have nrU : nrM m (top + 1) t (49104 + (top + 1)).toNat = 0 := by
    unfold nrM
    simp (disch := omega) only [up1_ne, up1_eq]
  have nrD : nrM m (top + 1) t (49120 + (top + 1)).toNat = 0 := by
    unfold nrM
    simp (disch := omega) only [up1_ne, up1_eq]
  have nrT : nrM m (top + 1) t (49136 + (top + 1)).toNat = t := by
    unfold nrM
    simp (disch := omega) only [up1_ne, up1_eq]
  generalize nrM m (top + 1) t = w0 at *
  have l1 : ∀ (k j : Nat) (w : Nat → Int), (j : Int) + k = T / 2 → (∀ i : Nat, ((i : Int) ≠ 49104 + (top + 1) ∧ ((i : Int) < 49168 + 8 * (top + 1) ∨ 49168 + 8 * (top + 1) + 8 ≤ i)) → w i = w0 i) → w (49104 + (top + 1)).toNat = j → (∀ i : Nat, i < j → w (49168 + 8 * (top + 1) + (i : Int)).toNat = m (49168 + 8 * top + (i : Int)).toNat) → ∃ w' : Nat → Int, rS w (fun ν => AT sc 218 2 [vR 139, vI top, vI T, vI (T / 2), vI j] [] (SK, ν)) (fun ν => AT sc 218 4 [vR 139, vI top, vI T, vI (T / 2), vN] [] (SK, ν)) w' ∧
      (∀ i : Nat, ((i : Int) ≠ 49104 + (top + 1) ∧ ((i : Int) < 49168 + 8 * (top + 1) ∨ 49168 + 8 * (top + 1) + 8 ≤ i)) → w' i = w0 i) ∧ w' (49104 + (top + 1)).toNat = T / 2 ∧ (∀ i : Nat, (i : Int) < T / 2 → w' (49168 + 8 * (top + 1) + (i : Int)).toNat = m (49168 + 8 * top + (i : Int)).toNat) := by
    intro k
    induction k with
    | zero =>
      intro j w e hw1 hw2 hw3
      refine ⟨w, .rf fun ν hν => ?_, hw1, by rw [hw2]; omega, fun i hi => hw3 i (by omega)⟩
      rw [B218_2]
      simp (disch := omega) only [xcI_some, xcV_some, if_pos, if_neg, xg_in, wr_of, if_true, if_false, or_true, true_or]
    | succ k ih =>
      intro j w e hw1 hw2 hw3
      have r213 := m213 (sc := sc) (m := w) (u := m (49168 + 8 * top + (j : Int)).toNat) (r := top + 1) (n := j) (by rw [hw1 9 (by omega), nr9]; omega) (by omega) (by omega) hw2 (by omega) (by omega)
      have an : ∀ i : Nat, i ≠ (49104 + (top + 1)).toNat → i ≠ (49168 + 8 * (top + 1) + (j : Int)).toNat → auM w (top + 1) j (m (49168 + 8 * top + (j : Int)).toNat) i = w i := fun i q1 q2 => by
        unfold auM
        rw [up1_ne q1, up1_ne q2]
      obtain ⟨w', x1, x2, x3, x4⟩ := ih (j + 1) (auM w (top + 1) j (m (49168 + 8 * top + (j : Int)).toNat)) (by omega) (fun i hi => by rw [an i (by omega) (by omega)]; exact hw1 i hi) (by unfold auM; rw [up1_eq]; omega) (fun i hi => by
        by_cases ei : i = j
        · subst ei
          unfold auM
          rw [up1_ne (by omega), up1_eq]
        · rw [an _ (by omega) (by omega)]
          exact hw3 i (by omega))
      refine ⟨w', fun ν hν => ?_, x2, x3, x4⟩
      obtain ⟨ν1, v1, v2, v3⟩ := r213 ν hν
      obtain ⟨ν2, v4, v5, v6⟩ := x1 ν1 v2
      have v1' : EV sc 213 [vR 139, vI (m (49168 + 8 * top + (j : Int)).toNat)] (SK, ν) = some (none, (SK, ν1)) := v1
      have v4' : AT sc 218 2 [vR 139, vI top, vI T, vI (T / 2), vI ((j : Int) + 1)] [] (SK, ν1) = AT sc 218 4 [vR 139, vI top, vI T, vI (T / 2), vN] [] (SK, ν2) := v4
      have wc : w (49168 + 8 * top + (j : Int)).toNat = m (49168 + 8 * top + (j : Int)).toNat := by rw [hw1 _ (by omega), nrn _ (by omega)]
      refine ⟨ν2, ?_, v5, v3.tr v6⟩
      show AT sc 218 2 [vR 139, vI top, vI T, vI (T / 2), vI j] [] (SK, ν) = _
      rw [B218_2]
      simp (disch := omega) only [hν, wc, v1', B218_3, v4', xcI_some, xcV_some, if_pos, if_neg, xg_in, wr_of, if_true, if_false, or_true, true_or]
  obtain ⟨w1, x1, x2, x3, x4⟩ := l1 (T / 2).toNat 0 w0 (by omega) (fun _ _ => rfl) nrU (fun i hi => absurd hi (by omega))
  have f1 : ∀ i : Nat, i ≠ (49152 + (top + 1)).toNat → up1 w1 (49152 + (top + 1)).toNat 1 i = w1 i := fun i hi => up1_ne hi
  have f2 : up1 w1 (49152 + (top + 1)).toNat 1 (49152 + (top + 1)).toNat = 1 := up1_eq
  generalize hw2 : up1 w1 (49152 + (top + 1)).toNat 1 = w2 at *
  have l2 : ∀ (k j : Nat) (x : Int) (w : Nat → Int), x = T / 2 + j → x + k = T → (∀ i : Nat, ((i : Int) < 49168 + 8 * top ∨ 49168 + 8 * top + (j : Int) ≤ i) → w i = w2 i) → (∀ i : Nat, i < j → w (49168 + 8 * top + (i : Int)).toNat = m (49168 + 8 * top + (T / 2 + i)).toNat) → ∃ w' : Nat → Int, rS w (fun ν => AT sc 218 6 [vR 139, vI top, vI T, vI (T / 2), vI x] [] (SK, ν)) (fun ν => AT sc 218 8 [vR 139, vI top, vI T, vI (T / 2), vN] [] (SK, ν)) w' ∧
      (∀ i : Nat, ((i : Int) < 49168 + 8 * top ∨ 49168 + 8 * top + 8 ≤ i) → w' i = w2 i) ∧ (∀ i : Nat, (i : Int) < T - T / 2 → w' (49168 + 8 * top + (i : Int)).toNat = m (49168 + 8 * top + (T / 2 + i)).toNat) := by
    intro k
    induction k with
    | zero =>
      intro j x w hx e q1 q2
      refine ⟨w, .rf fun ν hν => ?_, fun i hi => q1 i (by omega), fun i hi => q2 i (by omega)⟩
      rw [B218_6]
      simp (disch := omega) only [xcI_some, xcV_some, if_pos, if_neg, xg_in, wr_of, if_true, if_false, or_true, true_or]
    | succ k ih =>
      intro j x w hx e q1 q2
      have wc : w (49168 + 8 * top + x).toNat = m (49168 + 8 * top + x).toNat := by rw [q1 _ (by omega), f1 _ (by omega), x2 _ (by omega), nrn _ (by omega)]
      obtain ⟨w', y1, y2, y3⟩ := ih (j + 1) (x + 1) (up1 w (49168 + 8 * top + x - T / 2).toNat (m (49168 + 8 * top + x).toNat)) (by omega) (by omega) (fun i hi => by rw [up1_ne (by omega)]; exact q1 i (by omega)) (fun i hi => by
        by_cases ei : i = j
        · subst ei
          rw [show (49168 + 8 * top + (i : Int)).toNat = (49168 + 8 * top + x - T / 2).toNat by omega, up1_eq, hx]
        · rw [up1_ne (by omega)]
          exact q2 i (by omega))
      refine ⟨w', fun ν hν => ?_, y2, y3⟩
      obtain ⟨ν2, v4, v5, v6⟩ := y1 (up2 ν 140 (49168 + 8 * top + x - T / 2).toNat (m (49168 + 8 * top + x).toNat)) (by rw [up2_row, hν])
      have v4' : AT sc 218 6 [vR 139, vI top, vI T, vI (T / 2), vI (x + 1)] [] (SK, up2 ν 140 (49168 + 8 * top + x - T / 2).toNat (m (49168 + 8 * top + x).toNat)) = AT sc 218 8 [vR 139, vI top, vI T, vI (T / 2), vN] [] (SK, ν2) := v4
      refine ⟨ν2, ?_, v5, (frR.up rfl).tr v6⟩
      show AT sc 218 6 [vR 139, vI top, vI T, vI (T / 2), vI x] [] (SK, ν) = _
      rw [B218_6]
      simp (disch := omega) only [hν, wc, B218_7, v4', xcI_some, xcV_some, if_pos, if_neg, xg_in, wr_of, if_true, if_false, or_true, true_or]
  obtain ⟨w3, y1, y2, y3⟩ := l2 (T - T / 2).toNat 0 (T / 2) w2 (by omega) (by omega) (fun _ _ => rfl) (fun i hi => absurd hi (by omega))
  have fin : ∀ i : Nat, ((i : Int) ≠ 49104 + top ∧ (i : Int) ≠ 49120 + top ∧ (i : Int) ≠ 49152 + top) → up1 (up1 (up1 w3 (49104 + top).toNat (T - T / 2)) (49120 + top).toNat 0) (49152 + top).toNat 0 i = w3 i := fun i hi => by rw [up1_ne (by omega), up1_ne (by omega), up1_ne (by omega)]
  have fU : up1 (up1 (up1 w3 (49104 + top).toNat (T - T / 2)) (49120 + top).toNat 0) (49152 + top).toNat 0 (49104 + top).toNat = T - T / 2 := by simp (disch := omega) only [up1_ne, up1_eq]
  have fD : up1 (up1 (up1 w3 (49104 + top).toNat (T - T / 2)) (49120 + top).toNat 0) (49152 + top).toNat 0 (49120 + top).toNat = 0 := by simp (disch := omega) only [up1_ne, up1_eq]
  have fF : up1 (up1 (up1 w3 (49104 + top).toNat (T - T / 2)) (49120 + top).toNat 0) (49152 + top).toNat 0 (49152 + top).toNat = 0 := up1_eq
  generalize hm' : up1 (up1 (up1 w3 (49104 + top).toNat (T - T / 2)) (49120 + top).toNat 0) (49152 + top).toNat 0 = m' at *
  have gen : ∀ i : Nat, (i ≠ 9 ∧ (i : Int) ≠ 49104 + top ∧ (i : Int) ≠ 49104 + (top + 1) ∧ (i : Int) ≠ 49120 + top ∧ (i : Int) ≠ 49120 + (top + 1) ∧ (i : Int) ≠ 49136 + (top + 1) ∧ (i : Int) ≠ 49152 + top ∧ (i : Int) ≠ 49152 + (top + 1) ∧ ((i : Int) < 49168 + 8 * top ∨ 49168 + 8 * top + 16 ≤ i)) → m' i = m i := fun i hi => by
    rw [fin i (by omega), y2 i (by omega), f1 i (by omega), x2 i (by omega), nrn i (by omega)]
  have v9 : m' 9 = top + 2 := by rw [fin 9 (by omega), y2 9 (by omega), f1 9 (by omega), x2 9 (by omega), nr9]
  have vU1 : m' (49104 + (top + 1)).toNat = T / 2 := by rw [fin _ (by omega), y2 _ (by omega), f1 _ (by omega), x3]
  have vD1 : m' (49120 + (top + 1)).toNat = 0 := by rw [fin _ (by omega), y2 _ (by omega), f1 _ (by omega), x2 _ (by omega), nrD]
  have vT1 : m' (49136 + (top + 1)).toNat = t := by rw [fin _ (by omega), y2 _ (by omega), f1 _ (by omega), x2 _ (by omega), nrT]
  have vF1 : m' (49152 + (top + 1)).toNat = 1 := by rw [fin _ (by omega), y2 _ (by omega), f2]
  have vT0 : m' (49136 + top).toNat = t := by rw [gen _ (by omega), ht]
  have c1 : ∀ i : Nat, (i : Int) < T / 2 → m' (49168 + 8 * (top + 1) + (i : Int)).toNat = m (49168 + 8 * top + (i : Int)).toNat := fun i hi => by rw [fin _ (by omega), y2 _ (by omega), f1 _ (by omega), x4 i hi]
  have c0 : ∀ i : Nat, (i : Int) < T - T / 2 → m' (49168 + 8 * top + (i : Int)).toNat = m (49168 + 8 * top + (T / 2 + i)).toNat := fun i hi => by rw [fin _ (by omega), y3 i hi]
  have rw1 : rowU m' (top.toNat + 1) = K.take (T / 2).toNat := rowU_of (by rw [show 49104 + (top.toNat + 1) = (49104 + (top + 1)).toNat by omega, vU1, List.length_take]; omega) (fun i u hu => by
    have hil := (List.getElem?_eq_some_iff.mp hu).1
    rw [List.length_take] at hil
    rw [List.getElem?_take_of_lt (by omega)] at hu
    rw [show 49168 + (8 * (top.toNat + 1) + i) = (49168 + 8 * (top + 1) + (i : Int)).toNat by omega, c1 i (by omega)]
    exact cellK i u hu)
  have rw0 : rowU m' top.toNat = K.drop (T / 2).toNat := rowU_of (by rw [show 49104 + top.toNat = (49104 + top).toNat by omega, fU, List.length_drop]; omega) (fun i u hu => by
    have hil := (List.getElem?_eq_some_iff.mp hu).1
    rw [List.length_drop] at hil
    rw [List.getElem?_drop] at hu
    rw [show 49168 + (8 * top.toNat + i) = (49168 + 8 * top + (i : Int)).toNat by omega, c0 i (by omega)]
    have := cellK _ u hu
    rw [show (((T / 2).toNat + i : Nat) : Int) = T / 2 + i by omega] at this
    exact this)
  have rwL : allU m' top.toNat = L := by
    rw [← hL]
    exact allU_fr _ fun r hr' => ⟨gen _ (by omega), fun k hk' => gen _ (by
      have g := rowU_le (m := m) top.toNat r hr'
      rw [hL] at g
      omega)⟩
  have ew : wk m' = K ++ L := by
    unfold wk
    rw [v9, show (top + 2).toNat = top.toNat + 1 + 1 by omega, allU_s, allU_s, rw1, rw0, rwL, ← List.append_assoc, List.take_append_drop]
  have cn : ∀ k i : Nat, ((k ≠ 47 ∧ k ≠ 49 ∧ k ≠ 51 ∧ k ≠ 53) ∨ ((i : Int) ≠ top ∧ (i : Int) ≠ top + 1)) → (k ≠ 41 ∨ i ≠ 7) → htC C T top t k i = C k i := fun k i q1 q2 => by
    unfold htC
    simp (disch := omega) only [up2_ne]
  have hQ' : yQ (htC C T top t) m' := yQ_fr hQ (fun i hi => gen i (by omega)) (fun k i hk => cn k i (by omega) (by omega))
  have hU' : uP (htC C T top t) m' (K ++ L) := uP_fr hU n7.2 (fun k i hk => cn k i (by omega) (by omega)) (fun i hi => gen i (by omega))
  have hP' : yP (htC C T top t) m' := by
    unfold yP
    have ew' : allU m' (m' 9).toNat = K ++ L := ew
    rw [ew', v9]
    refine ⟨⟨by omega, by omega, by unfold htC; exact up2_eq⟩, hU'.1, hU'.2.1, fun r r0 r1 => ?_, hU'.2.2, ?_⟩
    · by_cases er : r = top + 1
      · subst er
        rw [vU1, vD1, vF1, vT1]
        unfold htC
        simp (disch := omega) only [up2_ne, up2_eq]
        exact ⟨trivial, by omega, trivial, trivial, trivial, Or.inl trivial⟩
      · by_cases er2 : r = top
        · subst er2
          rw [fU, fD, fF, vT0]
          have e53 : C 53 r.toNat = t := by rw [hT.2.2.2.1, ht]
          unfold htC
          simp (disch := omega) only [up2_ne, up2_eq, e53]
          exact ⟨trivial, by omega, trivial, trivial, trivial, Or.inl trivial⟩
        · obtain ⟨x, y⟩ := hrow r r0 (by omega)
          rw [cn 47 _ (by omega) (by omega), cn 49 _ (by omega) (by omega), cn 51 _ (by omega) (by omega), cn 53 _ (by omega) (by omega), gen (49104 + r).toNat (by omega), gen (49120 + r).toNat (by omega), gen (49152 + r).toNat (by omega), gen (49136 + r).toNat (by omega)]
          exact ⟨x.1, y, x.2.1, x.2.2.1, x.2.2.2.1, x.2.2.2.2⟩
    · rw [chU_fr (m := m) _ (fun v hv => by
        obtain ⟨i, hi⟩ := List.getElem?_of_mem hv
        have g := hU.2.2 i v hi
        exact gen _ (by omega))]
      exact hn
  refine ⟨htC C T top t, m', ?_, fun ν hν => ?_, fun j hj => by funext i; exact cn j i (by omega) (by omega), yQ_K hQ' hP', gen 10 (by omega), ew, v9⟩
  · have k101 : EV sc 101 [vR 41] (SK, C) = some (some (vI T), (SK, C)) := by
      simp (disch := omega) only [V101, B101_0, B101_1, B101_2, B101_3, h4, e1, G_46, gt_in, hT1, xcI_some, xcV_some, if_pos, if_neg, xg_in, wr_of, if_true, if_false, or_true, true_or]
    simp (disch := omega) only [V78, B78_0, B78_1, B78_2, k101, k116, xcI_some, xcV_some, if_pos, if_neg, xg_in, wr_of, if_true, if_false, or_true, true_or]
  · obtain ⟨ν1, v1, v2, v3⟩ := r212 ν hν
    obtain ⟨ν2, v4, v5, v6⟩ := x1 ν1 v2
    obtain ⟨ν3, z4, z5, z6⟩ := y1 (up2 ν2 140 (49152 + (top + 1)).toNat 1) (by rw [up2_row, v5, hw2])
    have v1' : EV sc 212 [vR 139, vI t] (SK, ν) = some (none, (SK, ν1)) := v1
    have v4' : AT sc 218 2 [vR 139, vI top, vI T, vI (T / 2), vI 0] [] (SK, ν1) = AT sc 218 4 [vR 139, vI top, vI T, vI (T / 2), vN] [] (SK, ν2) := v4
    have z4' : AT sc 218 6 [vR 139, vI top, vI T, vI (T / 2), vI (T / 2)] [] (SK, up2 ν2 140 (49152 + (top + 1)).toNat 1) = AT sc 218 8 [vR 139, vI top, vI T, vI (T / 2), vN] [] (SK, ν3) := z4
    have e152 : (49152 + top + 1).toNat = (49152 + (top + 1)).toNat := by omega
    refine ⟨up2 (up2 (up2 ν3 140 (49104 + top).toNat (T - T / 2)) 140 (49120 + top).toNat 0) 140 (49152 + top).toNat 0, ?_, by simp only [up2_row, z5, hm'], v3.tr (v6.tr ((frR.up rfl).tr (z6.tr ((frR.up rfl).tr ((frR.up rfl).tr (frR.up rfl))))))⟩
    show AT sc 221 9 [vR 139, vI n, vI bg, vI 1, vI top] [] (SK, ν) = _
    have k218 : EV sc 218 [vR 139, vI top] (SK, ν) = some (none, (SK, up2 (up2 (up2 ν3 140 (49104 + top).toNat (T - T / 2)) 140 (49120 + top).toNat 0) 140 (49152 + top).toNat 0)) := by
      simp (disch := omega) only [V218, B218_0, B218_1, B218_4, B218_5, B218_8, B218_9, B218_10, B218_11, hν, hl, ht, v1', v4', e152, z4', xcI_some, xcV_some, if_pos, if_neg, xg_in, wr_of, if_true, if_false, or_true, true_or]
    rw [B221_9]
    simp (disch := omega) only [hν, hl, B221_10, B221_12, k218, B221_13, xcI_some, xcV_some, if_pos, if_neg, xg_in, wr_of, if_true, if_false, or_true, true_or]
end

/-! tests tried on a row -/
section
variable {sc : Nat × (Nat → Int)} {C : xM} {m : Nat → Int} {ρ : Int → Int → Int}
def zC (C : xM) (z d : Int) : xM := up2 (up2 C 59 9 z) 59 8 d
def zM (m : Nat → Int) (z d : Int) : Nat → Int := up1 (up1 m 11 d) 2 z
theorem zC_zC {z d z' d' : Int} : up2 (up2 (zC C z d) 59 9 z') 59 8 d' = zC C z' d' := by
  unfold zC
  rw [up2_comm (k := 59) (i := 8) (by omega), up2_up2, up2_up2]
theorem zN_zN {ν : xM} {z d z' d' : Int} : up2 (up2 (up2 (up2 ν 140 11 d) 140 2 z) 140 11 d') 140 2 z' = up2 (up2 ν 140 11 d') 140 2 z' := by
  rw [up2_comm (k := 140) (i := 2) (by omega), up2_up2, up2_up2]
theorem held_loop {q s3 s4 x : Int} {t : Int} (h6 : C 59 6 = s3) (h7 : C 59 7 = s4) (m3 : m 3 = s3) (m4 : m 4 = s4) (h0 : 1 ≤ s4) (h1 : s4 ≤ s3) (h2 : s3 ≤ 9) (hx : x = 0 ∨ x = 1) (t0 : 0 ≤ t) (t1 : t < 24) (hq : m (41580 + t).toNat = q) : ∀ (k : Nat) (i fl hd z d : Int), i = hd + fl → 0 ≤ hd → hd ≤ s4 → 0 ≤ fl → i + k = s3 → ∃ b z' d' : Int, (b = 0 ∨ b = 1) ∧ AT sc 126 4 [vR 59, vN, vN, vN, vI x, vI q, vI hd, vI i] [] (SK, zC C z d) = some (some (vI b), (SK, zC C z' d')) ∧
    ∀ ν : xM, ν 140 = m → AT sc 180 3 [vR 139, vI t, vN, vI x, vI hd, vI fl, vN] [] (SK, up2 (up2 ν 140 11 d) 140 2 z) = some (some (vI b), (SK, up2 (up2 ν 140 11 d') 140 2 z')) := by
  have c6 : ∀ z d : Int, zC C z d 59 6 = s3 := fun z d => by unfold zC; rw [up2_ne (by omega), up2_ne (by omega), h6]
  have c7 : ∀ z d : Int, zC C z d 59 7 = s4 := fun z d => by unfold zC; rw [up2_ne (by omega), up2_ne (by omega), h7]
  have c8 : ∀ z d : Int, zC C z d 59 8 = d := fun z d => by unfold zC; exact up2_eq
  have c9 : ∀ z d : Int, zC C z d 59 9 = z := fun z d => by unfold zC; rw [up2_ne (by omega), up2_eq]
  have stop : ∀ (i fl hd z d : Int), 0 ≤ hd → hd ≤ s4 → 0 ≤ fl → fl ≤ 9 → i = hd + fl → (hd = s4 ∨ s3 - s4 < fl) → ∃ b z' d' : Int, (b = 0 ∨ b = 1) ∧ AT sc 126 4 [vR 59, vN, vN, vN, vI x, vI q, vI hd, vI i] [] (SK, zC C z d) = some (some (vI b), (SK, zC C z' d')) ∧
      ∀ ν : xM, ν 140 = m → AT sc 180 3 [vR 139, vI t, vN, vI x, vI hd, vI fl, vN] [] (SK, up2 (up2 ν 140 11 d) 140 2 z) = some (some (vI b), (SK, up2 (up2 ν 140 11 d') 140 2 z')) := fun i fl hd z d p0 p1 p2 p3 pi ps => by
    by_cases e : hd = s4
    · refine ⟨1, z, d, Or.inr rfl, ?_, fun ν hν => ?_⟩
      · rw [B126_4]
        by_cases y : i < s3
        · simp (disch := omega) only [c6, c7, B126_6, B126_8, xcI_some, xcV_some, if_pos, if_neg, xg_in, wr_of, if_true, if_false, or_true, true_or]
        · simp (disch := omega) only [c6, c7, B126_6, B126_8, xcI_some, xcV_some, if_pos, if_neg, xg_in, wr_of, if_true, if_false, or_true, true_or]
      · rw [B180_3]
        simp (disch := omega) only [up2_ne, hν, m3, m4, B180_10, B180_12, xcI_some, xcV_some, if_pos, if_neg, xg_in, wr_of, if_true, if_false, or_true, true_or]
    · have ps2 : s3 - s4 < fl := ps.elim (fun y => absurd y e) id
      refine ⟨0, z, d, Or.inl rfl, ?_, fun ν hν => ?_⟩
      · rw [B126_4]
        by_cases y : i < s3
        · simp (disch := omega) only [c6, c7, B126_6, B126_7, B126_8, xcI_some, xcV_some, if_pos, if_neg, xg_in, wr_of, if_true, if_false, or_true, true_or]
        · simp (disch := omega) only [c6, c7, B126_6, B126_7, B126_8, xcI_some, xcV_some, if_pos, if_neg, xg_in, wr_of, if_true, if_false, or_true, true_or]
      · rw [B180_3]
        simp (disch := omega) only [up2_ne, hν, m3, m4, B180_10, B180_11, B180_12, xcI_some, xcV_some, if_pos, if_neg, xg_in, wr_of, if_true, if_false, or_true, true_or]
  intro k
  induction k with
  | zero =>
    intro i fl hd z d hi p0 p1 p2 e
    exact stop i fl hd z d p0 p1 p2 (by omega) hi (by omega)
  | succ k ih =>
    intro i fl hd z d hi p0 p1 p2 e
    by_cases ps : hd = s4 ∨ s3 - s4 < fl
    · exact stop i fl hd z d p0 p1 p2 (by omega) hi ps
    · have hs1 : hd < s4 := by omega
      have hs2 : ¬ s3 - s4 < fl := by omega
      clear ps
      generalize hz : wr (wr (z * 1103515245) + 12345) = z1
      generalize hd' : wr (d + 1) = d1
      have cz : up2 (up2 (zC C z d) 59 9 z1) 59 8 d1 = zC C z1 d1 := zC_zC
      have nz : ∀ ν : xM, up2 (up2 (up2 (up2 ν 140 11 d) 140 2 z) 140 11 d1) 140 2 z1 = up2 (up2 ν 140 11 d1) 140 2 z1 := fun ν => zN_zN
      by_cases hx0 : x = 0
      · obtain ⟨b, z', d', y1, y2, y3⟩ := ih (i + 1) (fl + 1) hd z1 d1 (by omega) p0 p1 (by omega) (by omega)
        refine ⟨b, z', d', y1, ?_, fun ν hν => ?_⟩
        · rw [B126_4]
          simp (disch := omega) only [c6, c7, c8, c9, up2_ne, hz, hd', cz, B126_5, y2, xcI_some, xcV_some, if_pos, if_neg, xg_in, wr_of, if_true, if_false, or_true, true_or]
        · have y3' := y3 ν hν
          rw [B180_3]
          by_cases hr : z1 % 4294967296 / 256 % 1000 < q
          · simp (disch := omega) only [up2_ne, up2_eq, hν, m3, m4, hq, hz, hd', nz, B180_5, B180_6, B180_7, B180_8, B180_9, Int.add_zero, y3', xcI_some, xcV_some, if_pos, if_neg, xg_in, wr_of, if_true, if_false, or_true, true_or]
          · simp (disch := omega) only [up2_ne, up2_eq, hν, m3, m4, hq, hz, hd', nz, B180_4, B180_5, B180_6, B180_7, B180_8, B180_9, Int.add_zero, y3', xcI_some, xcV_some, if_pos, if_neg, xg_in, wr_of, if_true, if_false, or_true, true_or]
      · by_cases hr : z1 % 4294967296 / 256 % 1000 < q
        · obtain ⟨b, z', d', y1, y2, y3⟩ := ih (i + 1) (fl + 1) hd z1 d1 (by omega) p0 p1 (by omega) (by omega)
          refine ⟨b, z', d', y1, ?_, fun ν hν => ?_⟩
          · rw [B126_4]
            simp (disch := omega) only [c6, c7, c8, c9, up2_ne, up2_eq, hz, hd', cz, B126_5, y2, xcI_some, xcV_some, if_pos, if_neg, xg_in, wr_of, if_true, if_false, or_true, true_or]
          · have y3' := y3 ν hν
            rw [B180_3]
            simp (disch := omega) only [up2_ne, up2_eq, hν, m3, m4, hq, hz, hd', nz, B180_5, B180_6, B180_7, B180_8, B180_9, Int.add_zero, y3', xcI_some, xcV_some, if_pos, if_neg, xg_in, wr_of, if_true, if_false, or_true, true_or]
        · obtain ⟨b, z', d', y1, y2, y3⟩ := ih (i + 1) fl (hd + 1) z1 d1 (by omega) (by omega) (by omega) p2 (by omega)
          refine ⟨b, z', d', y1, ?_, fun ν hν => ?_⟩
          · rw [B126_4]
            simp (disch := omega) only [c6, c7, c8, c9, up2_ne, up2_eq, hz, hd', cz, B126_5, y2, xcI_some, xcV_some, if_pos, if_neg, xg_in, wr_of, if_true, if_false, or_true, true_or]
          · have y3' := y3 ν hν
            rw [B180_3]
            simp (disch := omega) only [up2_ne, up2_eq, hν, m3, m4, hq, hz, hd', nz, B180_4, B180_5, B180_7, B180_9, Int.add_zero, y3', xcI_some, xcV_some, if_pos, if_neg, xg_in, wr_of, if_true, if_false, or_true, true_or]
/-- a test tried on the trial -/
theorem held (hT : yT C m) (hS : ySl C m 61 61) (h1 : m 1 ≤ 1152) {t : Int} (t0 : 0 ≤ t) (t1 : t < m 6) : ∃ b z d : Int, (b = 0 ∨ b = 1) ∧ EV sc 126 [vR 59, vI t, vR 2, vI 61] (SK, C) = some (some (vI b), (SK, zC C z d)) ∧ rS m (fun ν => EV sc 180 [vR 139, vI t, vI 61] (SK, ν)) (fun ν => some (some (vI b), (SK, ν))) (zM m z d) := by
  have k127 := K127 (sc := sc) hT hS h1 (by omega) (by omega) t0 t1
  have m178' := fun ν : xM => fun hν : ν 140 = m => m178 (sc := sc) hν hT hS (by omega) (by omega) t0 t1
  have h6 := hT.1
  obtain ⟨g1, g2, g3, g4, g5⟩ := hT.2.1
  obtain ⟨g6, g7⟩ := hT.2.2.1
  have gt' := (hT.2.2.2 t t0 t1).2.2.2.2.1
  have k18 : EV sc 18 [vR 68, vI t] (SK, C) = some (some (vI (m (41580 + t).toNat)), (SK, C)) := by rw [G_68, gt_in t0 (by omega), gt']
  have h01 : bI (so m t 61) = 0 ∨ bI (so m t 61) = 1 := bI_if rfl
  generalize bI (so m t 61) = x at *
  by_cases hq : m (41580 + t).toNat = 0
  · rw [hq] at k18
    refine ⟨x, m 2, wr (m 11 + 1), h01, ?_, fun ν hν => ⟨up2 (up2 ν 140 11 (wr (m 11 + 1))) 140 2 (m 2), ?_, by unfold zM; simp only [up2_row, hν], (frR.up rfl).tr (frR.up rfl)⟩⟩
    · have e : zC C (m 2) (wr (m 11 + 1)) = up2 C 59 8 (wr (m 11 + 1)) := by
        unfold zC
        rw [up2_same (show C 59 9 = m 2 from g7)]
      rw [e]
      simp (disch := omega) only [V126, B126_0, B126_1, B126_2, k127, k18, g6, xcI_some, xcV_some, if_pos, if_neg, xg_in, wr_of, if_true, if_false, or_true, true_or]
    · show EV sc 180 [vR 139, vI t, vI 61] (SK, ν) = _
      rw [up2_same (show up2 ν 140 11 (wr (m 11 + 1)) 140 2 = m 2 by rw [up2_ne (by omega), hν])]
      simp (disch := omega) only [V180, B180_0, B180_1, m178' ν hν, hν, hq, xcI_some, xcV_some, if_pos, if_neg, xg_in, wr_of, if_true, if_false, or_true, true_or]
  · obtain ⟨b, z, d, y1, y2, y3⟩ := held_loop (sc := sc) (C := C) (m := m) (q := m (41580 + t).toNat) (x := x) g1 g2 rfl rfl g3 g4 g5 h01 t0 (by omega) rfl (m 3).toNat 0 0 0 (m 2) (m 11) (by omega) (by omega) (by omega) (by omega) (by omega)
    have e : zC C (m 2) (m 11) = C := by
      unfold zC
      rw [up2_same (show C 59 9 = m 2 from g7), up2_same (show C 59 8 = m 11 from g6)]
    rw [e] at y2
    refine ⟨b, z, d, y1, ?_, fun ν hν => ⟨up2 (up2 ν 140 11 d) 140 2 z, ?_, by unfold zM; simp only [up2_row, hν], (frR.up rfl).tr (frR.up rfl)⟩⟩
    · simp (disch := omega) only [V126, B126_0, B126_1, B126_2, B126_3, k127, k18, y2, xcI_some, xcV_some, if_pos, if_neg, xg_in, wr_of, if_true, if_false, or_true, true_or]
    · have y3' := y3 ν hν
      rw [up2_same (show ν 140 11 = m 11 by rw [hν]), up2_same (show ν 140 2 = m 2 by rw [hν])] at y3'
      show EV sc 180 [vR 139, vI t, vI 61] (SK, ν) = _
      simp (disch := omega) only [V180, B180_0, B180_1, B180_2, m178' ν hν, hν, y3', xcI_some, xcV_some, if_pos, if_neg, xg_in, wr_of, if_true, if_false, or_true, true_or]
theorem yK_z {z d : Int} (h : yK C m) : yK (zC C z d) (zM m z d) := by
  obtain ⟨a1, a2, a3, a4, a5, a6, a7, a8, a9, a10, a11⟩ := h
  have n7 : 0 ≤ m 7 ∧ m 7 ≤ 60 := ⟨a4.1, a4.2.1⟩
  have n0 : 0 ≤ m 0 ∧ m 0 ≤ 60 ∧ C 2 3 = m 0 := a6.1
  have n1 : 0 ≤ m 1 ∧ m 1 ≤ 1152 ∧ C 2 4 = m 1 := a6.2.1
  have n6 := a1.1
  have e : ∀ i : Nat, (i ≠ 11 ∧ i ≠ 2) → zM m z d i = m i := fun i hi => by unfold zM; rw [up1_ne hi.2, up1_ne hi.1]
  have eC : ∀ k i : Nat, (k ≠ 59 ∨ (i ≠ 8 ∧ i ≠ 9)) → zC C z d k i = C k i := fun k i hi => by unfold zC; rw [up2_ne (by omega), up2_ne (by omega)]
  refine ⟨?_, yL_fr a2 (eC 1 6 (by omega)) (e 5 (by omega)), yG_fr a3 (fun k i hk => eC k i (by omega)) (fun i hi => e i (by omega)), yA_fr a4 (fun k i hk => eC k i (by unfold dA at hk; omega)) (fun i hi => e i (by unfold aA at hi; omega)), yE_fr a5 a4 (fun k i hk => eC k i (by unfold dE at hk; omega)) (fun i _ _ => eC 5 i (by omega)) (by rw [e 1 (by omega)]; exact Int.le_refl _) (fun i hi => e i (by unfold aE at hi; omega)), yB_fr a6 ⟨eC 2 3 (by omega), eC 2 4 (by omega)⟩ ⟨e 0 (by omega), e 1 (by omega)⟩ (fun s _ _ k i hk => eC k i (by unfold dS at hk; omega)) (fun i _ _ => eC 5 i (by omega)) (fun s _ _ i hi => e i (by unfold aS at hi; omega)), yW_fr a7 ⟨a4.1, a4.2.1⟩ (fun k i hk => eC k i (by omega)) (fun i hi => e i (by omega)), yP_fr a8 (by rw [e 7 (by omega)]; exact Int.le_refl _) (fun k i hk => eC k i (by omega)) (fun i hi => e i (by omega)) (fun u u0 u1 _ => e (41964 + u).toNat (by omega)) (fun u u0 u1 h => by rw [e (41724 + u).toNat (by omega)]; exact h), yO_fr a9 a4 a6 a5 ⟨e 0 (by omega), e 7 (by omega)⟩ (fun s _ _ i hi => e i (by unfold aS at hi; omega)) (fun i hi => e i (by omega)), yM_fr a10 a4 (fun i hi => e i (by omega)), yN_fr a11 a4 (fun i hi => e i (by omega)) (fun u u0 u1 h => by rw [e (41724 + u).toNat (by omega)]; exact h) (fun u u0 u1 h => by rw [e (41724 + u).toNat (by omega)] at h; exact h)⟩
  unfold yT
  rw [e 6 (by omega), e 3 (by omega), e 4 (by omega), eC 59 5 (by omega), eC 59 6 (by omega), eC 59 7 (by omega)]
  refine ⟨a1.1, a1.2.1, ⟨?_, ?_⟩, fun t t0 t1 => ?_⟩
  · unfold zC zM
    rw [up2_eq, up1_ne (by omega), up1_eq]
  · unfold zC zM
    rw [up2_ne (by omega), up2_eq, up1_eq]
  · have h2 := a1.2.2.2 t t0 t1
    rw [e (41484 + t).toNat (by omega), e (41508 + t).toNat (by omega), e (41532 + t).toNat (by omega), e (41556 + t).toNat (by omega), e (41580 + t).toNat (by omega), eC 61 t.toNat (by omega), eC 63 t.toNat (by omega), eC 65 t.toNat (by omega), eC 67 t.toNat (by omega), eC 69 t.toNat (by omega)]
    exact h2
/-- whether a row touches a test -/
def rtc (m : Nat → Int) (K : List Int) (t : Int) : Prop := ∃ c ∈ chU m K, tch m c t
theorem chU_in (h : yA C m) {us : List Int} (hu : ∀ u ∈ us, 0 ≤ u ∧ u < m 7) : ∀ c ∈ chU m us, 0 ≤ c ∧ c < m 7 := fun c hc => by
  obtain ⟨v, hv, hcv⟩ := (mem_chUs us).mp hc
  have g := hu v hv
  have gp := (h.2.2.2 v g.1 g.2).2.2.2
  rcases hcv with e | ⟨e1, e2⟩
  · rw [e]; exact g
  · rw [e2]
    have := gp.elim (fun x => absurd x e1) id
    exact ⟨this.1, this.2.1⟩
theorem K105 (h : yP C m) {K L : List Int} {top : Int} (hw : wk m = K ++ L) (t0 : 0 ≤ top) (ht : m 9 = top + 1) (hl : m (49104 + top).toNat = K.length) : EV sc 105 [vR 41] (SK, C) = some (some (vI (chU m K).length), (SK, C)) := by
  have n9 := h.1
  have k106 := K106 (sc := sc) h (n := K.length) (by rw [hw, List.length_append]; omega)
  rw [hw, List.take_left'] at k106
  · have e1 : top + 1 - 1 = top := by omega
    have h47 := (h.2.2.2.1 top t0 (by omega)).1
    rw [hl] at h47
    have e9 : C 41 7 = top + 1 := by rw [n9.2.2, ht]
    have k101 : EV sc 101 [vR 41] (SK, C) = some (some (vI K.length), (SK, C)) := by
      simp (disch := omega) only [V101, B101_0, B101_1, B101_2, B101_3, e9, e1, G_46, gt_in, h47, xcI_some, xcV_some, if_pos, if_neg, xg_in, wr_of, if_true, if_false, or_true, true_or]
    simp (disch := omega) only [V105, B105_0, B105_1, B105_2, k101, k106, xcI_some, xcV_some, if_pos, if_neg, xg_in, wr_of, if_true, if_false, or_true, true_or]
  · rfl
theorem gl_K {K L : List Int} {i : Nat} {c : Int} (h : (chU m K)[i]? = some c) : gl (chU m (K ++ L)) i = c := by
  have hil := (List.getElem?_eq_some_iff.mp h).1
  unfold gl
  rw [if_neg (by omega), chU_app, List.getD_eq_getElem?_getD, show ((i : Int)).toNat = i by omega, List.getElem?_append_left hil, h]
  rfl
theorem K76 (h : yK C m) {K L : List Int} {top t : Int} (hw : wk m = K ++ L) (t0 : 0 ≤ top) (ht : m 9 = top + 1) (hl : m (49104 + top).toNat = K.length) (s0 : 0 ≤ t) (s1 : t < m 6) : EV sc 76 [vR 1, vI t] (SK, C) = some (some (vI (bI (rtc m K t))), (SK, C)) := by
  obtain ⟨a1, a2, a3, a4, a5, a6, a7, a8, a9, a10, a11⟩ := id h
  have n6 := a1.1
  have n1 : m 1 ≤ 1152 := a6.2.1.2.1
  have gT := a1.2.2.2 t s0 s1
  have k105 := K105 (sc := sc) a8 hw t0 ht hl
  have k121 : EV sc 121 [vR 59, vI t] (SK, C) = some (some (vI (m (41484 + t).toNat)), (SK, C)) := by
    simp (disch := omega) only [V121, B121_0, B121_1, G_60, gt_in, gT.1, xcI_some, xcV_some, if_pos, if_neg, xg_in, wr_of, if_true, if_false, or_true, true_or]
  have k122 : EV sc 122 [vR 59, vI t] (SK, C) = some (some (vI (m (41508 + t).toNat)), (SK, C)) := by
    simp (disch := omega) only [V122, B122_0, B122_1, G_62, gt_in, gT.2.1, xcI_some, xcV_some, if_pos, if_neg, xg_in, wr_of, if_true, if_false, or_true, true_or]
  have hU := yP_uP a8
  have hK : ∀ c ∈ chU m K, 0 ≤ c ∧ c < m 7 := chU_in a4 fun u hu => by
    obtain ⟨i, hi⟩ := List.getElem?_of_mem (show u ∈ wk m by rw [hw]; exact List.mem_append_left _ hu)
    have g := hU.2.2 i u hi
    exact ⟨g.2.2.1, g.2.2.2.1⟩
  have len : (chU m K).length ≤ 16 := by
    have := chU_len (m := m) K
    have h8 := hU.2.1
    rw [hw, List.length_append] at h8
    omega
  have l : ∀ (k j : Nat) (i : Int), i = j → j + k = (chU m K).length → (∀ (i : Nat) (c : Int), i < j → (chU m K)[i]? = some c → ¬ tch m c t) → AT sc 76 4 [vR 1, vN, vI (m (41484 + t).toNat), vI (m (41508 + t).toNat), vI (chU m K).length, vI i] [] (SK, C) = some (some (vI (bI (rtc m K t))), (SK, C)) := by
    intro k
    induction k with
    | zero =>
      intro j i hi e ha
      rw [B76_4, bI_f (show ¬ rtc m K t from fun ⟨c, hc, hct⟩ => by
        obtain ⟨i, hi⟩ := List.getElem?_of_mem hc
        exact ha i c (by have := (List.getElem?_eq_some_iff.mp hi).1; omega) hi hct)]
      clear ha
      simp (disch := omega) only [B76_8, xcI_some, xcV_some, if_pos, if_neg, xg_in, wr_of, if_true, if_false, or_true, true_or]
    | succ k ih =>
      intro j i hi e ha
      obtain ⟨c, hc⟩ : ∃ c, (chU m K)[j]? = some c := ⟨_, List.getElem?_eq_getElem (by omega)⟩
      have gc := hK c (List.mem_of_getElem? hc)
      have k107 := K107 (sc := sc) a8 (x := i) (by omega) (by omega)
      rw [hw, hi, gl_K hc] at k107
      have k48 := K48 (sc := sc) (kd := m (41484 + t).toNat) (a := m (41508 + t).toNat) a4 a5 n1 gc.1 gc.2
      subst hi
      rw [B76_4]
      by_cases ok : tch m c t
      · rw [bI_t (show tcP m c (m (41484 + t).toNat) (m (41508 + t).toNat) from ok)] at k48
        rw [bI_t (show rtc m K t from ⟨c, List.mem_of_getElem? hc, ok⟩)]
        clear ha ih
        simp (disch := omega) only [k107, B76_5, k48, B76_6, xcI_some, xcV_some, if_pos, if_neg, xg_in, wr_of, if_true, if_false, or_true, true_or]
      · rw [bI_f (show ¬ tcP m c (m (41484 + t).toNat) (m (41508 + t).toNat) from ok)] at k48
        have ih1 := ih (j + 1) ((j : Int) + 1) (by omega) (by omega) (fun i' c' hi' hc' => by
          by_cases e2 : i' = j
          · rw [e2, hc] at hc'
            rw [← Option.some.inj hc']
            exact ok
          · exact ha i' c' (by omega) hc')
        clear ha ih
        simp (disch := omega) only [k107, B76_5, k48, B76_6, B76_7, ih1, xcI_some, xcV_some, if_pos, if_neg, xg_in, wr_of, if_true, if_false, or_true, true_or]
  have l0 := l (chU m K).length 0 0 rfl (by omega) (fun i c h => absurd h (by omega))
  simp (disch := omega) only [V76, B76_0, B76_1, B76_2, B76_3, k121, k122, k105, l0, xcI_some, xcV_some, if_pos, if_neg, xg_in, wr_of, if_true, if_false, or_true, true_or]
/-- the reference's look whether a test is touched -/
theorem m220_3 {ν : xM} (hν : ν 140 = m) (hT : yT C m) (hA : yA C m) (hE : yE C m) {K : List Int} {top t : Int} (hR : isL (ν 143) (chU m K)) (len : (chU m K).length ≤ 16) (hK : ∀ c ∈ chU m K, 0 ≤ c ∧ c < m 7) (s0 : 0 ≤ t) (s1 : t < m 6) : AT sc 220 3 [vR 139, vI top, vI (chU m K).length, vN, vI t, vI 0, vI 0, vN, vN, vN, vN] [] (SK, ν) = AT sc 220 8 [vR 139, vI top, vI (chU m K).length, vN, vI t, vI (bI (rtc m K t)), vN, vN, vN, vN, vN] [] (SK, ν) := by
  have l : ∀ (k j : Nat) (i : Int) (Q : Prop), i = j → j + k = (chU m K).length → (Q ↔ ∃ (i : Nat) (c : Int), i < j ∧ (chU m K)[i]? = some c ∧ tch m c t) → AT sc 220 3 [vR 139, vI top, vI (chU m K).length, vN, vI t, vI (bI Q), vI i, vN, vN, vN, vN] [] (SK, ν) = AT sc 220 8 [vR 139, vI top, vI (chU m K).length, vN, vI t, vI (bI (rtc m K t)), vN, vN, vN, vN, vN] [] (SK, ν) := by
    intro k
    induction k with
    | zero =>
      intro j i Q hi e hQ
      rw [B220_3, bI_iff (show rtc m K t ↔ Q from ⟨fun ⟨c, hc, hct⟩ => by
        obtain ⟨i, hi⟩ := List.getElem?_of_mem hc
        exact hQ.mpr ⟨i, c, by have := (List.getElem?_eq_some_iff.mp hi).1; omega, hi, hct⟩, fun q => by
        obtain ⟨i, c, _, hc, hct⟩ := hQ.mp q
        exact ⟨c, List.mem_of_getElem? hc, hct⟩⟩)]
      clear hQ
      simp (disch := omega) only [xcI_some, xcV_some, if_pos, if_neg, xg_in, wr_of, if_true, if_false, or_true, true_or]
    | succ k ih =>
      intro j i Q hi e hQ
      obtain ⟨c, hc⟩ : ∃ c, (chU m K)[j]? = some c := ⟨_, List.getElem?_eq_getElem (by omega)⟩
      have gc := hK c (List.mem_of_getElem? hc)
      have rc : ν 143 i.toNat = c := by rw [show i.toNat = j by omega]; exact hR j c hc
      have k196 := m196 (sc := sc) hν hT hA hE gc.1 gc.2 s0 s1
      rw [B220_3]
      by_cases q : Q
      · have ih1 := ih (j + 1) (i + 1) True (by omega) (by omega) ⟨fun _ => by obtain ⟨x, y, z1, z2⟩ := hQ.mp q; exact ⟨x, y, by omega, z2⟩, fun _ => trivial⟩
        rw [bI_t trivial] at ih1
        rw [bI_t q]
        clear hQ
        simp (disch := omega) only [B220_5, B220_7, ih1, xcI_some, xcV_some, if_pos, if_neg, xg_in, wr_of, if_true, if_false, or_true, true_or]
      · by_cases ok : tch m c t
        · have ih1 := ih (j + 1) (i + 1) True (by omega) (by omega) ⟨fun _ => ⟨j, c, by omega, hc, ok⟩, fun _ => trivial⟩
          rw [bI_t trivial] at ih1
          rw [bI_t ok] at k196
          rw [bI_f q]
          clear hQ
          simp (disch := omega) only [rc, k196, B220_4, B220_5, B220_7, ih1, xcI_some, xcV_some, if_pos, if_neg, xg_in, wr_of, if_true, if_false, or_true, true_or]
        · have ih1 := ih (j + 1) (i + 1) Q (by omega) (by omega) ⟨fun y => absurd y q, fun ⟨x, y, z1, z2, z3⟩ => by
            by_cases e2 : x = j
            · rw [e2, hc] at z2
              rw [← Option.some.inj z2] at z3
              exact absurd z3 ok
            · exact hQ.mpr ⟨x, y, by omega, z2, z3⟩⟩
          rw [bI_f ok] at k196
          rw [bI_f q] at ih1 ⊢
          clear hQ
          simp (disch := omega) only [rc, k196, B220_4, B220_6, B220_7, ih1, xcI_some, xcV_some, if_pos, if_neg, xg_in, wr_of, if_true, if_false, or_true, true_or]
  have l0 := l (chU m K).length 0 0 False rfl (by omega) ⟨False.elim, fun ⟨x, y, z1, _⟩ => absurd z1 (by omega)⟩
  rw [bI_f id] at l0
  exact l0
end

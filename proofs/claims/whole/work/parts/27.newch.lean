/-! a change more -/
/-- cells that are not a new change's -/
def nwI (n : Int) (i : Nat) : Prop := (i : Int) ≠ 41604 + n ∧ (i : Int) ≠ 41664 + n ∧ (i : Int) ≠ 41724 + n ∧ (i : Int) ≠ 41784 + n ∧ (i : Int) ≠ 41844 + n ∧ (i : Int) ≠ 41904 + n ∧ (i : Int) ≠ 41964 + n ∧ (i : Int) ≠ 42024 + n ∧
  ¬ (42084 + 4 * n ≤ i ∧ (i : Int) < 42084 + 4 * n + 4) ∧ ¬ (42324 + 4 * n ≤ i ∧ (i : Int) < 42324 + 4 * n + 4) ∧ ¬ (42564 + 4 * n ≤ i ∧ (i : Int) < 42564 + 4 * n + 4) ∧ ¬ (42804 + 4 * n ≤ i ∧ (i : Int) < 42804 + 4 * n + 4) ∧ ¬ (43044 + 4 * n ≤ i ∧ (i : Int) < 43044 + 4 * n + 4) ∧
  ¬ (43284 + 24 * n ≤ i ∧ (i : Int) < 43284 + 24 * n + 24) ∧ ¬ (44724 + 24 * n ≤ i ∧ (i : Int) < 44724 + 24 * n + 24) ∧ ¬ (46164 + 24 * n ≤ i ∧ (i : Int) < 46164 + 24 * n + 24) ∧ ¬ (47604 + 24 * n ≤ i ∧ (i : Int) < 47604 + 24 * n + 24)
def nwC (n : Int) (k i : Nat) : Prop := (k ≠ 6 ∨ i ≠ 9) ∧ ((k ≠ 8 ∧ k ≠ 10 ∧ k ≠ 12 ∧ k ≠ 14 ∧ k ≠ 16 ∧ k ≠ 18 ∧ k ≠ 20 ∧ k ≠ 22) ∨ (i : Int) ≠ n) ∧
  ((k ≠ 25 ∧ k ≠ 27 ∧ k ≠ 29 ∧ k ≠ 31 ∧ k ≠ 33) ∨ (i : Int) < 4 * n ∨ 4 * n + 4 ≤ i) ∧ ((k ≠ 35 ∧ k ≠ 37) ∨ (i : Int) < 24 * n ∨ 24 * n + 24 ≤ i)
/-- an edit's marks in order -/
def yOk (ρ : Int → Int → Int) (m : Nat → Int) (e : Int) : Prop := ychain (ρ (m (42084 + e).toNat)) (opt0 (m (42804 + e).toNat) ++ mkL m (43284 + 6 * e) (m (42324 + e).toNat) ++ opt0 (m (43044 + e).toNat)) ∧
    ychain (ρ (m (42084 + e).toNat)) (opt0 (m (42804 + e).toNat) ++ mkL m (46164 + 6 * e) (m (42564 + e).toNat) ++ opt0 (m (43044 + e).toNat))
theorem yOk_fr {ρ : Int → Int → Int} {m m' : Nat → Int} {e : Int} (h : yOk ρ m e) (e0 : 0 ≤ e) (h1 : m (42324 + e).toNat ≤ 6) (h2 : m (42564 + e).toNat ≤ 6) (hm : ∀ i : Nat, aEe e i → m' i = m i) : yOk ρ m' e := by
  unfold yOk at h ⊢
  rw [hm (42084 + e).toNat (by unfold aEe; omega), hm (42804 + e).toNat (by unfold aEe; omega), hm (43044 + e).toNat (by unfold aEe; omega), hm (42324 + e).toNat (by unfold aEe; omega), hm (42564 + e).toNat (by unfold aEe; omega),
    mkL_fr (m := m) (fun j j0 j1 => hm _ (by unfold aEe; omega)), mkL_fr (m := m) (fun j j0 j1 => hm _ (by unfold aEe; omega))]
  exact h
theorem yK_add {C C' : xM} {m m' : Nat → Int} (h : yK C m) (h60 : m 7 < 60) (p7 : m' 7 = m 7 + 1) (q7 : C' 6 9 = m 7 + 1) (e : ∀ i : Nat, i ≠ 7 → nwI (m 7) i → m' i = m i) (eC : ∀ k i, nwC (m 7) k i → C' k i = C k i)
    (hA : yAc C' m' (m 7)) (h0 : m' (41724 + m 7).toNat = 0) (h44 : m' (41844 + m 7).toNat = -1) (hE : yEc C' m' (m 7)) (hO : ∀ ρ : Int → Int → Int, (∀ c k : Int, 0 ≤ c → c < m 7 → 0 ≤ k → k < m (41904 + c).toNat → yOk ρ m (4 * c + k)) → ∀ k : Int, 0 ≤ k → k < m' (41904 + m 7).toNat → yOk ρ m' (4 * m 7 + k)) : yK C' m' := by
  obtain ⟨a1, a2, a3, a4, a5, a6, a7, a8, a9, a10, a11⟩ := h
  have n7 : 0 ≤ m 7 ∧ m 7 ≤ 60 := ⟨a4.1, a4.2.1⟩
  have n0 : 0 ≤ m 0 ∧ m 0 ≤ 60 ∧ C 2 3 = m 0 := a6.1
  have n1 : 0 ≤ m 1 ∧ m 1 ≤ 1152 ∧ C 2 4 = m 1 := a6.2.1
  have n8 : 0 ≤ m 8 ∧ m 8 ≤ 60 := ⟨a7.1, a7.2.1⟩
  refine ⟨yT_fr a1 (fun k i hk => eC k i (by unfold dT at hk; unfold nwC; omega)) (fun i hi => e i (by unfold aT at hi; omega) (by unfold aT at hi; unfold nwI; omega)), yL_fr a2 (eC 1 6 (by unfold nwC; omega)) (e 5 (by omega) (by unfold nwI; omega)), yG_fr a3 (fun k i hk => eC k i (by unfold nwC; omega)) (fun i hi => e i (by omega) (by unfold nwI; omega)), ?_, ?_,
    yB_fr a6 ⟨eC 2 3 (by unfold nwC; omega), eC 2 4 (by unfold nwC; omega)⟩ ⟨e 0 (by omega) (by unfold nwI; omega), e 1 (by omega) (by unfold nwI; omega)⟩ (fun s _ _ k i hk => eC k i (by unfold dS at hk; unfold nwC; omega)) (fun i _ _ => eC 5 i (by unfold nwC; omega)) (fun s s0 s1 i hi => e i (by unfold aS at hi; omega) (by unfold aS at hi; unfold nwI; omega)), ?_,
    yP_fr a8 (by omega) (fun k i hk => eC k i (by unfold nwC; omega)) (fun i hi => e i (by omega) (by unfold nwI; omega)) (fun u u0 u1 _ => e (41964 + u).toNat (by omega) (by unfold nwI; omega)) (fun u u0 u1 h => by rw [e (41724 + u).toNat (by omega) (by unfold nwI; omega)]; exact h), ?_, ?_, ?_⟩
  · unfold yA
    rw [p7, q7]
    refine ⟨by omega, by omega, rfl, fun c c0 c1 => ?_⟩
    have g : yAc C' m' c := by
      by_cases ec : c = m 7
      · rw [ec]; exact hA
      · exact yAc_fr (a4.2.2.2 c c0 (by omega)) (fun k hk => eC k _ (by unfold nwC; omega)) (fun a ha => e _ (by omega) (by unfold nwI; omega)) (by omega) (fun d d0 d1 => e _ (by omega) (by unfold nwI; omega))
    unfold yAc at g
    rw [p7] at g
    exact g
  · intro c c0 c1
    rw [p7] at c1
    by_cases ec : c = m 7
    · rw [ec]; exact hE
    · exact yEc_fr (n := m 7) (a5 c c0 (by omega)) c0 (by omega) n7.2 (a4.2.2.2 c c0 (by omega)).2.1.2 (fun k i hk => eC k i (by unfold dE at hk; unfold nwC; omega)) (fun i _ _ => eC 5 i (by unfold nwC; omega)) (by rw [e 1 (by omega) (by unfold nwI; omega)]; exact Int.le_refl _) (e _ (by omega) (by unfold nwI; omega)) (fun i hi _ _ => e i (by unfold aE at hi; omega) (by unfold aE at hi; unfold nwI; omega))
  · obtain ⟨w1, w2, w3, w4, w5, w6⟩ := a7
    have e8 := e 8 (by omega) (by unfold nwI; omega)
    unfold yW
    rw [e8, p7, eC 38 1 (by unfold nwC; omega)]
    have el : ∀ k : Int, 0 ≤ k → k < m 8 → m' (49044 + k).toNat = m (49044 + k).toNat := fun k k0 k1 => e _ (by omega) (by unfold nwI; omega)
    refine ⟨w1, w2, w3, fun k k0 k1 => ?_, fun j k j0 j1 k0 k1 e2 => ?_, fun c c0 c1 e2 => ?_⟩
    · have w := w4 k k0 k1
      rw [el k k0 k1, eC 40 k.toNat (by unfold nwC; omega), e (41724 + m (49044 + k).toNat).toNat (by omega) (by unfold nwI; omega)]
      exact ⟨w.1, w.2.1, by omega, w.2.2.2⟩
    · rw [el j j0 j1, el k k0 k1] at e2
      exact w5 j k j0 j1 k0 k1 e2
    · by_cases ec : c = m 7
      · rw [ec] at e2; omega
      · rw [e (41724 + c).toNat (by omega) (by unfold nwI; omega)] at e2
        obtain ⟨k, k0, k1, ek⟩ := w6 c c0 (by omega) e2
        exact ⟨k, k0, k1, by rw [el k k0 k1]; exact ek⟩
  · obtain ⟨ρ, o1, o2⟩ := a9
    refine ⟨ρ, fun s f s0 s1 f0 f1 => ?_, fun c k c0 c1 k0 k1 => ?_⟩
    · rw [e 0 (by omega) (by unfold nwI; omega)] at s1
      have hF := a6.2.2 s f s0 s1 f0 f1
      rw [e (12 + 8 * s + f).toNat (by omega) (by unfold nwI; omega), mkL_fr (m := m) (fun k k0 k1 => e _ (by have := hF.2.2.1; omega) (by have := hF.2.2.1; unfold nwI; omega))]
      exact o1 s f s0 s1 f0 f1
    · rw [p7] at c1
      by_cases ec : c = m 7
      · subst ec
        exact hO ρ o2 k k0 k1
      · have hne := (a4.2.2.2 c c0 (by omega)).2.1
        rw [e (41904 + c).toNat (by omega) (by unfold nwI; omega)] at k1
        have he := ((a5 c c0 (by omega)).1 k k0 k1).2.1
        exact yOk_fr (o2 c k c0 (by omega) k0 k1) (by omega) (by omega) (by omega) (fun i hi => e i (by unfold aEe at hi; omega) (by unfold aEe at hi; unfold nwI; omega))
  · unfold yM
    rw [p7, e 1 (by omega) (by unfold nwI; omega)]
    refine ⟨fun _ => by omega, ?_⟩
    have g := a10.2
    have g2 := hA.2.1
    rw [show (m 7 + 1).toNat = (m 7).toNat + 1 by omega]
    unfold sumN
    rw [sumN_fr (g := fun c => m (41904 + c)) (m 7).toNat (fun k hk => e _ (by omega) (by unfold nwI; omega)), show 41904 + (m 7).toNat = (41904 + m 7).toNat by omega]
    omega
  · refine ⟨fun s s0 s1 => ?_, fun c c0 c1 e2 => ?_⟩
    · rw [e 0 (by omega) (by unfold nwI; omega)] at s1
      obtain ⟨c, c0, c1, ew, ec⟩ := a11.1 s s0 s1
      exact ⟨c, c0, by omega, by rw [e _ (by omega) (by unfold nwI; omega)]; exact ew, by rw [e _ (by omega) (by unfold nwI; omega)]; exact ec⟩
    · rw [p7] at c1
      by_cases ec : c = m 7
      · rw [ec]; exact h44
      · rw [e (41724 + c).toNat (by omega) (by unfold nwI; omega)] at e2
        rw [e (41844 + c).toNat (by omega) (by unfold nwI; omega)]
        exact a11.2 c c0 (by omega) e2
/-- what begin writes; what the reference's newChange does -/
def bg (μ : xM) (n kd st : Int) : xM := up2 (up2 (up2 (up2 (up2 (up2 (up2 (up2 μ 8 n.toNat kd) 10 n.toNat 0) 12 n.toNat st) 14 n.toNat (-1)) 16 n.toNat (-1)) 18 n.toNat (-1)) 20 n.toNat 0) 22 n.toNat 0
def nw (m : Nat → Int) (kd : Int) : Nat → Int := up1 (up1 (up1 (up1 (up1 (up1 (up1 (up1 (up1 m 7 (m 7 + 1)) (41604 + m 7).toNat kd) (41664 + m 7).toNat (m 0)) (41724 + m 7).toNat 0) (41784 + m 7).toNat (-1)) (41844 + m 7).toNat (-1)) (41904 + m 7).toNat 0) (41964 + m 7).toNat (-1)) (42024 + m 7).toNat 0
theorem bg_ne {μ : xM} {n kd st : Int} {k i : Nat} (h : (k ≠ 8 ∧ k ≠ 10 ∧ k ≠ 12 ∧ k ≠ 14 ∧ k ≠ 16 ∧ k ≠ 18 ∧ k ≠ 20 ∧ k ≠ 22) ∨ i ≠ n.toNat) : bg μ n kd st k i = μ k i := by
  unfold bg
  simp (disch := omega) only [up2_ne]
theorem nw_ne {m : Nat → Int} {kd : Int} {i : Nat} (h7 : 0 ≤ m 7) (h : i ≠ 7 ∧ (i : Int) ≠ 41604 + m 7 ∧ (i : Int) ≠ 41664 + m 7 ∧ (i : Int) ≠ 41724 + m 7 ∧ (i : Int) ≠ 41784 + m 7 ∧ (i : Int) ≠ 41844 + m 7 ∧ (i : Int) ≠ 41904 + m 7 ∧ (i : Int) ≠ 41964 + m 7 ∧ (i : Int) ≠ 42024 + m 7) : nw m kd i = m i := by
  unfold nw
  simp (disch := omega) only [up1_ne]
section
variable {sc : Nat × (Nat → Int)} {μ : xM}
theorem K24 {kd st n : Int} (hn : μ 6 9 = n) (h0 : 0 ≤ n) (h1 : n ≤ 60) : EV sc 24 [vR 6, vI kd, vI st] (SK, μ) = some (some (vI n), (SK, bg μ n kd st)) := by
  unfold bg
  simp (disch := omega) only [V24, B24_0, B24_1, B24_2, B24_3, B24_4, B24_5, B24_6, B24_7, B24_8, S_7, S_9, S_11, S_13, S_15, S_17, S_19, S_21, S_24, S_26, S_28, S_30, S_32, S_34, S_36, S_39, S_42, S_44, S_46, S_48, S_50, S_52, S_55, S_57, S_60, S_62, S_64, S_66, S_68, st_in, up2_ne, hn, xcI_some, xcV_some, if_pos, if_neg, xg_in, wr_of, if_true, if_false, or_true, true_or]
theorem K25 {n : Int} (hn : μ 6 9 = n) (h0 : 0 ≤ n) (h1 : n < 60) : EV sc 25 [vR 6] (SK, μ) = some (some (vI n), (SK, up2 μ 6 9 (n + 1))) := by
  simp (disch := omega) only [V25, B25_0, B25_1, hn, up2_eq, xcI_some, xcV_some, if_pos, if_neg, xg_in, wr_of, if_true, if_false, or_true, true_or]
  rw [show n + 1 - 1 = n by omega]
theorem m182 {m : Nat → Int} {ν : xM} {kd : Int} (hν : ν 140 = m) (h0 : 0 ≤ m 7) (h1 : m 7 < 60) : ∃ ν' : xM, EV sc 182 [vR 139, vI kd] (SK, ν) = some (some (vI (m 7)), (SK, ν')) ∧ ν' 140 = nw m kd ∧ frM ν ν' := by
  subst hν
  refine ⟨up2 (up2 (up2 (up2 (up2 (up2 (up2 (up2 (up2 ν 140 7 (ν 140 7 + 1)) 140 (41604 + ν 140 7).toNat kd) 140 (41664 + ν 140 7).toNat (ν 140 0)) 140 (41724 + ν 140 7).toNat 0) 140 (41784 + ν 140 7).toNat (-1)) 140 (41844 + ν 140 7).toNat (-1)) 140 (41904 + ν 140 7).toNat 0) 140 (41964 + ν 140 7).toNat (-1)) 140 (42024 + ν 140 7).toNat 0, ?_, ?_, ?_⟩
  · simp (disch := omega) only [V182, B182_0, B182_1, B182_2, B182_3, B182_4, B182_5, B182_6, B182_7, B182_8, B182_9, up2_ne, xcI_some, xcV_some, if_pos, if_neg, xg_in, wr_of, if_true, if_false, or_true, true_or]
  · simp only [up2_row]
    rfl
  · exact (frM.up (by omega)).tr ((frM.up (by omega)).tr ((frM.up (by omega)).tr ((frM.up (by omega)).tr ((frM.up (by omega)).tr ((frM.up (by omega)).tr ((frM.up (by omega)).tr ((frM.up (by omega)).tr (frM.up (by omega)))))))))
theorem bg_fr {n kd st : Int} : frC μ (bg μ n kd st) := by
  unfold bg
  exact (frC.up (by omega)).tr ((frC.up (by omega)).tr ((frC.up (by omega)).tr ((frC.up (by omega)).tr ((frC.up (by omega)).tr ((frC.up (by omega)).tr ((frC.up (by omega)).tr (frC.up (by omega))))))))
theorem op_change (h : yAll μ) {kd : Int} : yOp sc 138 183 [vI kd] μ := by
  obtain ⟨⟨a1, a2, a3, a4, a5, a6, a7, a8, a9, a10, a11⟩, hk⟩ := id h
  have n6 := a1.1
  have n3 := a1.2.1
  have n5 := a2.2
  have n10 : 0 ≤ μ 140 10 ∧ μ 140 10 ≤ 600 := ⟨a3.1, a3.2.1⟩
  have n7 : 0 ≤ μ 140 7 ∧ μ 140 7 ≤ 60 := ⟨a4.1, a4.2.1⟩
  have n0 : 0 ≤ μ 140 0 ∧ μ 140 0 ≤ 60 ∧ μ 2 3 = μ 140 0 := a6.1
  have n1 : 0 ≤ μ 140 1 ∧ μ 140 1 ≤ 1152 ∧ μ 2 4 = μ 140 1 := a6.2.1
  have n8 : 0 ≤ μ 140 8 ∧ μ 140 8 ≤ 60 := ⟨a7.1, a7.2.1⟩
  have n9 := a8.1
  have c7 := a4.2.2.1
  have c8 := a7.2.2.1
  have c10 := a3.2.2.1
  by_cases hk2 : 0 ≤ kd ∧ kd ≤ 3
  · by_cases h60 : μ 140 7 = 60
    · refine .same h (-4) ?_ fun ν hν => ?_
      · simp (disch := omega) only [V138, B138_0, B138_1, B138_2, B138_3, B138_4, B138_5, B138_6, B138_7, V23, B23_0, xcI_some, xcV_some, if_pos, if_neg, xg_in, wr_of, if_true, if_false, or_true, true_or]
      · simp (disch := omega) only [V183, B183_0, B183_1, B183_2, B183_3, B183_4, in_t, up2_ne, hν, xcI_some, xcV_some, if_pos, if_neg, xg_in, wr_of, if_true, if_false, or_true, true_or]
    · have k24 := K24 (sc := sc) (μ := μ) (kd := kd) (st := μ 140 0) c7 n7.1 n7.2
      have k25 := K25 (sc := sc) (μ := bg μ (μ 140 7) kd (μ 140 0)) (n := μ 140 7) (by rw [bg_ne (by omega)]; exact c7) n7.1 (by omega)
      refine .mk h (μ 140 7) (up2 (bg μ (μ 140 7) kd (μ 140 0)) 6 9 (μ 140 7 + 1)) (nw (μ 140) kd) ?_ (bg_fr.tr (.up (by omega))) (fun ν hν => ?_) ?_
      · simp (disch := omega) only [V138, B138_0, B138_1, B138_2, B138_3, B138_4, B138_5, B138_6, B138_7, V23, B23_0, V1, B1_0, c7, n0.2.2, k24, k25, xcI_some, xcV_some, if_pos, if_neg, xg_in, wr_of, if_true, if_false, or_true, true_or]
      · obtain ⟨ν', e1, e2, e3⟩ := m182 (sc := sc) (ν := up2 ν 139 3 0) (kd := kd) (by rw [up2_k (by omega)]; exact hν) n7.1 (by omega)
        refine ⟨ν', ?_, e2, frM.th.tr e3⟩
        simp (disch := omega) only [V183, B183_0, B183_1, B183_2, B183_3, B183_4, in_t, up2_ne, hν, e1, xcI_some, xcV_some, if_pos, if_neg, xg_in, wr_of, if_true, if_false, or_true, true_or]
      · have p1 : nw (μ 140) kd (41604 + μ 140 7).toNat = kd := by unfold nw; simp (disch := omega) only [up1_ne, up1_eq]
        have p2 : nw (μ 140) kd (41664 + μ 140 7).toNat = μ 140 0 := by unfold nw; simp (disch := omega) only [up1_ne, up1_eq]
        have p3 : nw (μ 140) kd (41724 + μ 140 7).toNat = 0 := by unfold nw; simp (disch := omega) only [up1_ne, up1_eq]
        have p4 : nw (μ 140) kd (41784 + μ 140 7).toNat = -1 := by unfold nw; simp (disch := omega) only [up1_ne, up1_eq]
        have p5 : nw (μ 140) kd (41844 + μ 140 7).toNat = -1 := by unfold nw; simp (disch := omega) only [up1_ne, up1_eq]
        have p6 : nw (μ 140) kd (41904 + μ 140 7).toNat = 0 := by unfold nw; simp (disch := omega) only [up1_ne, up1_eq]
        have p8 : nw (μ 140) kd (41964 + μ 140 7).toNat = -1 := by unfold nw; simp (disch := omega) only [up1_ne, up1_eq]
        have p9 : nw (μ 140) kd (42024 + μ 140 7).toNat = 0 := by unfold nw; simp (disch := omega) only [up1_ne, up1_eq]
        refine yK_add h.1 (by omega) ?_ up2_eq (fun i hi hI => ?_) (fun k i hC => ?_) ?_ p3 p5 ?_ ?_
        · unfold nw; simp (disch := omega) only [up1_ne, up1_eq]
        · exact nw_ne n7.1 (by unfold nwI at hI; omega)
        · rw [up2_ne (by unfold nwC at hC; omega), bg_ne (by unfold nwC at hC; omega)]
        · unfold yAc
          rw [p1, p2, p3, p4, p5, p6, p8, p9]
          unfold bg
          simp (disch := omega) only [up2_ne, up2_eq]
          exact ⟨⟨trivial, trivial, trivial, trivial, trivial, trivial, trivial, trivial⟩, ⟨by omega, by omega⟩, Or.inl trivial, Or.inl trivial⟩
        · unfold yEc
          rw [p6]
          exact ⟨fun k k0 k1 => by omega, fun k k' k0 k1 => by omega⟩
        · intro ρ _ k k0 k1
          rw [p6] at k1
          omega
  · refine .same h (-2) ?_ fun ν hν => ?_
    · rcases (show kd < 0 ∨ 3 < kd by omega) with g | g <;> simp (disch := omega) only [V138, B138_0, B138_1, B138_2, B138_3, B138_4, B138_5, B138_6, B138_7, xcI_some, xcV_some, if_pos, if_neg, xg_in, wr_of, if_true, if_false, or_true, true_or]
    · simp (disch := omega) only [V183, B183_0, B183_1, B183_2, B183_3, B183_4, in_f, xcI_some, xcV_some, if_pos, if_neg, xg_in, wr_of, if_true, if_false, or_true, true_or]
end

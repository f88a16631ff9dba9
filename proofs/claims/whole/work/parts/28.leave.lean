/-! loops: check, alter; the line, leave -/
theorem up2_same {μ : xM} {k i : Nat} {v : Int} (h : μ k i = v) : up2 μ k i v = μ := by
  funext k' i'
  by_cases e : k' = k ∧ i' = i
  · obtain ⟨e1, e2⟩ := e
    subst e1
    subst e2
    rw [up2_eq, h]
  · exact up2_ne (by omega)
def cp1 (m : Nat → Int) (s t n : Nat) : Nat → Int := fun j => if t ≤ j ∧ j < t + n then m (s + (j - t)) else m j
theorem cp1_in {m : Nat → Int} {s t n j : Nat} (h0 : t ≤ j) (h1 : j < t + n) : cp1 m s t n j = m (s + (j - t)) := if_pos ⟨h0, h1⟩
theorem cp1_out {m : Nat → Int} {s t n j : Nat} (h : j < t ∨ t + n ≤ j) : cp1 m s t n j = m j := if_neg (by omega)
theorem cp2_row {μ : xM} {k s t n : Nat} : cp2 μ k s k t n k = cp1 (μ k) s t n := by
  funext j
  by_cases h : t ≤ j ∧ j < t + n
  · rw [cp2_in rfl h.1 h.2, cp1_in h.1 h.2]
  · rw [cp2_out (by omega), cp1_out (by omega)]
theorem cp2_step {μ : xM} {k s t j i : Nat} {v : Int} (hi : i = t + j) (hv : v = μ k (s + j)) : up2 (cp2 μ k s k t j) k i v = cp2 μ k s k t (j + 1) := by
  funext k' i'
  by_cases e : k' = k
  · subst e
    by_cases e2 : i' = i
    · subst e2
      rw [up2_eq, cp2_in rfl (by omega) (by omega), hv, hi, show t + j - t = j by omega]
    · rw [up2_ne (by omega)]
      by_cases h : t ≤ i' ∧ i' < t + j
      · rw [cp2_in rfl h.1 h.2, cp2_in rfl (by omega) (by omega)]
      · rw [cp2_out (by omega), cp2_out (by omega)]
  · rw [up2_ne (by omega), cp2_out (by omega), cp2_out (by omega)]
/-- the reference's row alone changes -/
def frR (ν ν' : xM) : Prop := ∀ k : Nat, k ≠ 140 → ν' k = ν k
theorem frR.rf {ν : xM} : frR ν ν := fun _ _ => rfl
theorem frR.tr {ν ν1 ν2 : xM} (h : frR ν ν1) (h2 : frR ν1 ν2) : frR ν ν2 := fun k hk => (h2 k hk).trans (h k hk)
theorem frR.up {ν : xM} {k i : Nat} {v : Int} (h : k = 140) : frR ν (up2 ν k i v) := fun j hj => up2_k (by omega)
theorem frR.M {ν ν' : xM} (h : frR ν ν') : frM ν ν' := ⟨fun k hk => h k (by omega), by rw [h 139 (by omega)]⟩
/-- the first wrong run -/
def fw (m : Nat → Int) : Nat → Int → Int
  | 0, _ => -1
  | k + 1, i => if m (49296 + i).toNat = m (51696 + i).toNat then fw m k (i + 1) else i / 4
section
variable {sc : Nat × (Nat → Int)} {μ ν : xM}
theorem E95 {m : Nat → Int} (h : yG μ m) : ∀ k : Nat, ∀ i : Int, 0 ≤ i → i + k = 4 * m 10 → AT sc 95 1 [vR 54, vI i] [] (SK, μ) = some (some (vI (fw m k i)), (SK, μ)) := by
  obtain ⟨h0, h1, h2, h3⟩ := h
  intro k
  induction k with
  | zero =>
    intro i i0 e
    rw [B95_1]
    simp (disch := omega) only [B95_5, h2, xcI_some, xcV_some, if_pos, if_neg, xg_in, wr_of, if_true, if_false, or_true, true_or, fw]
  | succ k ih =>
    intro i i0 e
    obtain ⟨g1, g2⟩ := h3 i i0 (by omega)
    have ih1 := ih (i + 1) (by omega) (by omega)
    unfold fw
    by_cases d : m (49296 + i).toNat = m (51696 + i).toNat
    · rw [B95_1]
      simp (disch := omega) only [h2, B95_2, B95_3, B95_4, G_55, G_57, gt_in, g1, g2, d, ih1, xcI_some, xcV_some, if_pos, if_neg, xg_in, wr_of, if_true, if_false, or_true, true_or]
    · rw [B95_1]
      simp (disch := omega) only [h2, B95_2, B95_3, B95_4, G_55, G_57, gt_in, g1, g2, d, xcI_some, xcV_some, if_pos, if_neg, xg_in, wr_of, if_true, if_false, or_true, true_or]
theorem E228 {m : Nat → Int} (hν : ν 140 = m) (h : 0 ≤ m 10 ∧ m 10 ≤ 600) : ∀ k : Nat, ∀ i j x : Int, x = 4 * i + j → 0 ≤ i → 0 ≤ j → j < 4 → x + k + 1 = 4 * m 10 → AT sc 228 2 [vR 139, vI i, vI x] [] (SK, ν) = some (some (vI (fw m (k + 1) x)), (SK, ν)) := by
  intro k
  induction k with
  | zero =>
    intro i j x hx i0 j0 j1 e
    unfold fw
    have ei : x / 4 = i := by omega
    rw [B228_2]
    by_cases d : m (49296 + x).toNat = m (51696 + x).toNat
    · simp (disch := omega) only [hν, d, B228_3, xcI_some, xcV_some, if_pos, if_neg, xg_in, wr_of, if_true, if_false, or_true, true_or]
      rw [B228_2]
      simp (disch := omega) only [B228_4, B228_1, B228_5, hν, fw, xcI_some, xcV_some, if_pos, if_neg, xg_in, wr_of, if_true, if_false, or_true, true_or]
    · simp (disch := omega) only [hν, d, ei, xcI_some, xcV_some, if_pos, if_neg, xg_in, wr_of, if_true, if_false, or_true, true_or]
  | succ k ih =>
    intro i j x hx i0 j0 j1 e
    unfold fw
    have ei : x / 4 = i := by omega
    rw [B228_2]
    by_cases d : m (49296 + x).toNat = m (51696 + x).toNat
    · by_cases j4 : j = 3
      · have ih1 := ih (i + 1) 0 (x + 1) (by omega) (by omega) (by omega) (by omega) (by omega)
        have ex : 4 * (i + 1) = x + 1 := by omega
        simp (disch := omega) only [hν, d, B228_3, xcI_some, xcV_some, if_pos, if_neg, xg_in, wr_of, if_true, if_false, or_true, true_or]
        rw [B228_2]
        simp (disch := omega) only [B228_4, B228_1, hν, ex, ih1, xcI_some, xcV_some, if_pos, if_neg, xg_in, wr_of, if_true, if_false, or_true, true_or]
      · have ih1 := ih i (j + 1) (x + 1) (by omega) (by omega) (by omega) (by omega) (by omega)
        simp (disch := omega) only [hν, d, B228_3, ih1, xcI_some, xcV_some, if_pos, if_neg, xg_in, wr_of, if_true, if_false, or_true, true_or]
    · simp (disch := omega) only [hν, d, ei, xcI_some, xcV_some, if_pos, if_neg, xg_in, wr_of, if_true, if_false, or_true, true_or]
theorem op_check (h : yAll μ) : yOp sc 155 228 [] μ := by
  obtain ⟨⟨a1, a2, a3, a4, a5, a6, a7, a8, a9, a10, a11⟩, hk⟩ := id h
  have n6 := a1.1
  have n3 := a1.2.1
  have n5 := a2.2
  have n10 : 0 ≤ μ 140 10 ∧ μ 140 10 ≤ 600 := ⟨a3.1, a3.2.1⟩
  have n7 : 0 ≤ μ 140 7 ∧ μ 140 7 ≤ 60 := ⟨a4.1, a4.2.1⟩
  have n0 : 0 ≤ μ 140 0 ∧ μ 140 0 ≤ 60 ∧ μ 2 3 = μ 140 0 := a6.1
  have n1 : 0 ≤ μ 140 1 ∧ μ 140 1 ≤ 1152 ∧ μ 2 4 = μ 140 1 := a6.2.1
  have n8 : 0 ≤ μ 140 8 ∧ μ 140 8 ≤ 60 := ⟨a7.1, a7.2.1⟩
  have n9 := a8.1
  have c7 := a4.2.2.1
  have c8 := a7.2.2.1
  have c10 := a3.2.2.1
  refine .same h (fw (μ 140) (4 * μ 140 10).toNat 0) ?_ fun ν hν => ?_
  · have g := E95 (sc := sc) a3 (4 * μ 140 10).toNat 0 (by omega) (by omega)
    simp (disch := omega) only [V155, B155_0, B155_1, V95, B95_0, g, xcI_some, xcV_some, if_pos, if_neg, xg_in, wr_of, if_true, if_false, or_true, true_or]
  · have ν0 : up2 ν 139 3 0 140 = μ 140 := by rw [up2_k (by omega)]; exact hν
    rw [V228, B228_0, B228_1, ν0]
    by_cases z : μ 140 10 = 0
    · simp (disch := omega) only [z, B228_5, xcI_some, xcV_some, if_pos, if_neg, xg_in, wr_of, if_true, if_false, or_true, true_or]
      rfl
    · have g := E228 (sc := sc) ν0 n10 (4 * μ 140 10 - 1).toNat 0 0 0 (by omega) (by omega) (by omega) (by omega) (by omega)
      rw [show (4 * μ 140 10 - 1).toNat + 1 = (4 * μ 140 10).toNat by omega] at g
      have e0 : wr (4 * 0) = 0 := by rw [wr_of (by omega) (by omega)]; rfl
      simp (disch := omega) only [e0, g, xcI_some, xcV_some, if_pos, if_neg, xg_in, wr_of, if_true, if_false, or_true, true_or]
theorem op_alter (h : yAll μ) {r w x : Int} : yOp sc 154 227 [vI r, vI w, vI x] μ := by
  obtain ⟨⟨a1, a2, a3, a4, a5, a6, a7, a8, a9, a10, a11⟩, hk⟩ := id h
  have n6 := a1.1
  have n3 := a1.2.1
  have n5 := a2.2
  have n10 : 0 ≤ μ 140 10 ∧ μ 140 10 ≤ 600 := ⟨a3.1, a3.2.1⟩
  have n7 : 0 ≤ μ 140 7 ∧ μ 140 7 ≤ 60 := ⟨a4.1, a4.2.1⟩
  have n0 : 0 ≤ μ 140 0 ∧ μ 140 0 ≤ 60 ∧ μ 2 3 = μ 140 0 := a6.1
  have n1 : 0 ≤ μ 140 1 ∧ μ 140 1 ≤ 1152 ∧ μ 2 4 = μ 140 1 := a6.2.1
  have n8 : 0 ≤ μ 140 8 ∧ μ 140 8 ≤ 60 := ⟨a7.1, a7.2.1⟩
  have n9 := a8.1
  have c7 := a4.2.2.1
  have c8 := a7.2.2.1
  have c10 := a3.2.2.1
  by_cases hi : 0 ≤ r ∧ r < μ 140 10
  · by_cases hw : 0 ≤ w ∧ w ≤ 3
    · by_cases hx : x = 0
      · refine .same h (-2) ?_ fun ν hν => ?_
        · simp (disch := omega) only [V154, B154_0, B154_1, B154_2, B154_3, B154_4, B154_5, B154_6, V89, B89_0, isIn_t, c10, xcI_some, xcV_some, if_pos, if_neg, xg_in, wr_of, if_true, if_false, or_true, true_or]
        · simp (disch := omega) only [V227, B227_0, B227_1, B227_2, B227_3, B227_4, in_t, up2_ne, hν, xcI_some, xcV_some, if_pos, if_neg, xg_in, wr_of, if_true, if_false, or_true, true_or]
      · have g := a3.2.2.2 (4 * r + w) (by omega) (by omega)
        have ea : r * 4 + w = 4 * r + w := by omega
        have eb : 49296 + 4 * r + w = 49296 + (4 * r + w) := by omega
        refine .mk h (xxor (μ 140 (49296 + (4 * r + w)).toNat) x) (up2 μ 56 (4 * r + w).toNat (xxor (μ 140 (49296 + (4 * r + w)).toNat) x)) (up1 (μ 140) (49296 + (4 * r + w)).toNat (xxor (μ 140 (49296 + (4 * r + w)).toNat) x)) ?_ (.up (by omega)) (fun ν hν => ⟨up2 (up2 ν 139 3 0) 140 (49296 + (4 * r + w)).toNat (xxor (μ 140 (49296 + (4 * r + w)).toNat) x), ?_, ?_, ?_⟩) ?_
        · simp (disch := omega) only [V154, B154_0, B154_1, B154_2, B154_3, B154_4, B154_5, B154_6, V89, B89_0, V93, B93_0, B93_1, V94, B94_0, B94_1, B94_2, B94_3, isIn_t, c10, G_7, G_9, G_11, G_13, G_15, G_17, G_19, G_21, G_24, G_26, G_28, G_30, G_32, G_34, G_36, G_39, G_42, G_44, G_46, G_48, G_50, G_52, G_55, G_57, G_60, G_62, G_64, G_66, G_68, S_7, S_9, S_11, S_13, S_15, S_17, S_19, S_21, S_24, S_26, S_28, S_30, S_32, S_34, S_36, S_39, S_42, S_44, S_46, S_48, S_50, S_52, S_55, S_57, S_60, S_62, S_64, S_66, S_68, gt_in, st_in, g.1, ea, up2_eq, xcI_some, xcV_some, if_pos, if_neg, xg_in, wr_of, if_true, if_false, or_true, true_or]
        · simp (disch := omega) only [V227, B227_0, B227_1, B227_2, B227_3, B227_4, in_t, up2_ne, hν, eb, up2_eq, xcI_some, xcV_some, if_pos, if_neg, xg_in, wr_of, if_true, if_false, or_true, true_or]
        · simp (disch := omega) only [up2_row, up2_k, hν]
        · exact frM.th.tr (.up (by omega))
        · skip
          have e : ∀ i : Nat, (i ≠ (49296 + (4 * r + w)).toNat) → (up1 (μ 140) (49296 + (4 * r + w)).toNat (xxor (μ 140 (49296 + (4 * r + w)).toNat) x)) i = μ 140 i := fun i hi => by simp (disch := omega) only [up1_ne]
          have eC : ∀ k i : Nat, (k ≠ 56 ∨ i ≠ (4 * r + w).toNat) → (up2 μ 56 (4 * r + w).toNat (xxor (μ 140 (49296 + (4 * r + w)).toNat) x)) k i = μ k i := fun k i hi => by simp (disch := omega) only [up2_ne]
          refine ⟨yT_fr a1 (fun k i hk => eC k i (by unfold dT at hk; omega)) (fun i hi => e i (by unfold aT at hi; omega)), yL_fr a2 (eC 1 6 (by omega)) (e 5 (by omega)), ?_, yA_fr a4 (fun k i hk => eC k i (by unfold dA at hk; omega)) (fun i hi => e i (by unfold aA at hi; omega)), yE_fr a5 a4 (fun k i hk => eC k i (by unfold dE at hk; omega)) (fun i _ _ => eC 5 i (by omega)) (by rw [e 1 (by omega)]; exact Int.le_refl _) (fun i hi => e i (by unfold aE at hi; omega)), yB_fr a6 ⟨eC 2 3 (by omega), eC 2 4 (by omega)⟩ ⟨e 0 (by omega), e 1 (by omega)⟩ (fun s _ _ k i hk => eC k i (by unfold dS at hk; omega)) (fun i _ _ => eC 5 i (by omega)) (fun s _ _ i hi => e i (by unfold aS at hi; omega)), yW_fr a7 ⟨a4.1, a4.2.1⟩ (fun k i hk => eC k i (by omega)) (fun i hi => e i (by omega)), yP_fr a8 (by rw [e 7 (by omega)]; exact Int.le_refl _) (fun k i hk => eC k i (by omega)) (fun i hi => e i (by omega)) (fun u u0 u1 _ => e (41964 + u).toNat (by omega)) (fun u u0 u1 h => by rw [e (41724 + u).toNat (by omega)]; exact h), yO_fr a9 a4 a6 a5 ⟨e 0 (by omega), e 7 (by omega)⟩ (fun s _ _ i hi => e i (by unfold aS at hi; omega)) (fun i hi => e i (by omega)), yM_fr a10 a4 (fun i hi => e i (by omega)), yN_fr a11 a4 (fun i hi => e i (by omega)) (fun u u0 u1 h => by rw [e (41724 + u).toNat (by omega)]; exact h) (fun u u0 u1 h => by rw [e (41724 + u).toNat (by omega)] at h; exact h)⟩
          unfold yG
          rw [e 10 (by omega), eC 54 2 (by omega)]
          refine ⟨n10.1, n10.2, c10, fun j j0 j1 => ?_⟩
          have gj := a3.2.2.2 j j0 j1
          rw [e (51696 + j).toNat (by omega), eC 58 j.toNat (by omega)]
          by_cases ej : j = 4 * r + w
          · rw [ej, up2_eq, up1_eq, ← ej]
            exact ⟨rfl, gj.2⟩
          · rw [e (49296 + j).toNat (by omega), eC 56 j.toNat (by omega)]
            exact gj
    · refine .same h (-2) ?_ fun ν hν => ?_
      · simp (disch := omega) only [V154, B154_0, B154_1, B154_2, B154_3, B154_4, B154_5, B154_6, V89, B89_0, isIn_t, isIn_f, c10, xcI_some, xcV_some, if_pos, if_neg, xg_in, wr_of, if_true, if_false, or_true, true_or]
      · simp (disch := omega) only [V227, B227_0, B227_1, B227_2, B227_3, B227_4, in_t, in_f, up2_ne, hν, xcI_some, xcV_some, if_pos, if_neg, xg_in, wr_of, if_true, if_false, or_true, true_or]
  · refine .same h (-2) ?_ fun ν hν => ?_
    · simp (disch := omega) only [V154, B154_0, B154_1, B154_2, B154_3, B154_4, B154_5, B154_6, V89, B89_0, isIn_f, c10, xcI_some, xcV_some, if_pos, if_neg, xg_in, wr_of, if_true, if_false, or_true, true_or]
    · simp (disch := omega) only [V227, B227_0, B227_1, B227_2, B227_3, B227_4, in_f, up2_ne, hν, xcI_some, xcV_some, if_pos, if_neg, xg_in, wr_of, if_true, if_false, or_true, true_or]
/-! the line: a place, and out of it -/
theorem K85 {m : Nat → Int} (h : yW μ m) {c p : Int} (p0 : 0 ≤ p) (p1 : p < m 8) (hc : m (49044 + p).toNat = c) : EV sc 85 [vR 38, vI c] (SK, μ) = some (some (vI p), (SK, μ)) := by
  obtain ⟨w1, w2, w3, w4, w5, w6⟩ := h
  have l : ∀ k : Nat, ∀ i : Int, 0 ≤ i → i + k = p → AT sc 85 1 [vR 38, vI c, vI i] [] (SK, μ) = some (some (vI p), (SK, μ)) := by
    intro k
    induction k with
    | zero =>
      intro i i0 e
      have ei : i = p := by omega
      subst ei
      have gi := (w4 i i0 p1).1
      rw [B85_1]
      simp (disch := omega) only [w3, G_39, gt_in, B85_2, gi, hc, xcI_some, xcV_some, if_pos, if_neg, xg_in, wr_of, if_true, if_false, or_true, true_or]
    | succ k ih =>
      intro i i0 e
      have ih1 := ih (i + 1) (by omega) (by omega)
      have gi := (w4 i i0 (by omega)).1
      have ne : m (49044 + i).toNat ≠ c := fun e2 => by have := w5 i p i0 (by omega) p0 p1 (e2.trans hc.symm); omega
      rw [B85_1]
      simp (disch := omega) only [w3, G_39, gt_in, B85_2, B85_3, gi, ih1, xcI_some, xcV_some, if_pos, if_neg, xg_in, wr_of, if_true, if_false, or_true, true_or]
  rw [V85, B85_0, l p.toNat 0 (by omega) (by omega)]
theorem K198 {m : Nat → Int} {C : xM} (hν : ν 140 = m) (h : yW C m) {c p : Int} (p0 : 0 ≤ p) (p1 : p < m 8) (hc : m (49044 + p).toNat = c) : EV sc 198 [vR 139, vI c] (SK, ν) = some (some (vI p), (SK, ν)) := by
  obtain ⟨w1, w2, w3, w4, w5, w6⟩ := h
  have l : ∀ k : Nat, ∀ i : Int, 0 ≤ i → i + k = p → AT sc 198 1 [vR 139, vI c, vI i] [] (SK, ν) = some (some (vI p), (SK, ν)) := by
    intro k
    induction k with
    | zero =>
      intro i i0 e
      have ei : i = p := by omega
      subst ei
      rw [B198_1]
      simp (disch := omega) only [hν, hc, xcI_some, xcV_some, if_pos, if_neg, xg_in, wr_of, if_true, if_false, or_true, true_or]
    | succ k ih =>
      intro i i0 e
      have ih1 := ih (i + 1) (by omega) (by omega)
      have ne : m (49044 + i).toNat ≠ c := fun e2 => by have := w5 i p i0 (by omega) p0 p1 (e2.trans hc.symm); omega
      rw [B198_1]
      simp (disch := omega) only [hν, B198_2, ih1, xcI_some, xcV_some, if_pos, if_neg, xg_in, wr_of, if_true, if_false, or_true, true_or]
  rw [V198, B198_0, l p.toNat 0 (by omega) (by omega)]
theorem K86 {m : Nat → Int} (h : yW μ m) {c p : Int} (p0 : 0 ≤ p) (p1 : p < m 8) (hc : m (49044 + p).toNat = c) : EV sc 86 [vR 38, vI c] (SK, μ) = some (none, (SK, up2 (cp2 μ 40 (p.toNat + 1) 40 p.toNat (m 8 - 1 - p).toNat) 38 1 (m 8 - 1))) := by
  obtain ⟨w1, w2, w3, w4, w5, w6⟩ := h
  have g : ∀ i : Int, 0 ≤ i → i < m 8 → i ≠ p → μ 40 i.toNat ≠ c := fun i i0 i1 ne e => ne (w5 i p i0 i1 p0 p1 (by rw [← (w4 i i0 i1).1, e, hc]))
  have gp : μ 40 p.toNat = c := (w4 p p0 p1).1.trans hc
  have l1 : ∀ k : Nat, ∀ i : Int, 0 ≤ i → i + k = p → AT sc 86 1 [vR 38, vI c, vI i, vI i, vN] [] (SK, μ) = AT sc 86 1 [vR 38, vI c, vI p, vI p, vN] [] (SK, μ) := by
    intro k
    induction k with
    | zero =>
      intro i i0 e
      rw [show i = p by omega]
    | succ k ih =>
      intro i i0 e
      have ih1 := ih (i + 1) (by omega) (by omega)
      have gi := g i i0 (by omega) (by omega)
      have us : up2 μ 40 i.toNat (μ 40 i.toNat) = μ := up2_same rfl
      rw [B86_1]
      simp (disch := omega) only [w3, G_39, gt_in, B86_2, S_39, st_in, us, B86_3, B86_4, ih1, xcI_some, xcV_some, if_pos, if_neg, xg_in, wr_of, if_true, if_false, or_true, true_or]
  have l2 : ∀ k : Nat, ∀ (i x : Int) (j : Nat), x = i - 1 → i = p + 1 + j → i + k = m 8 → AT sc 86 1 [vR 38, vI c, vI x, vI i, vN] [] (SK, cp2 μ 40 (p.toNat + 1) 40 p.toNat j) = some (none, (SK, up2 (cp2 μ 40 (p.toNat + 1) 40 p.toNat (m 8 - 1 - p).toNat) 38 1 (m 8 - 1))) := by
    intro k
    induction k with
    | zero =>
      intro i x j hx hi e
      rw [B86_1]
      simp (disch := omega) only [cp2_out, w3, B86_5, xcI_some, xcV_some, if_pos, if_neg, xg_in, wr_of, if_true, if_false, or_true, true_or]
      rw [show j = (m 8 - 1 - p).toNat by omega, show x = m 8 - 1 by omega]
    | succ k ih =>
      intro i x j hx hi e
      have ih1 := ih (i + 1) (x + 1) (j + 1) (by omega) (by omega) (by omega)
      have gi := g i (by omega) (by omega) (by omega)
      have us : up2 (cp2 μ 40 (p.toNat + 1) 40 p.toNat j) 40 x.toNat (μ 40 i.toNat) = cp2 μ 40 (p.toNat + 1) 40 p.toNat (j + 1) := cp2_step (by omega) (by rw [show p.toNat + 1 + j = i.toNat by omega])
      rw [B86_1]
      simp (disch := omega) only [cp2_out, w3, G_39, gt_in, B86_2, S_39, st_in, us, B86_3, B86_4, ih1, xcI_some, xcV_some, if_pos, if_neg, xg_in, wr_of, if_true, if_false, or_true, true_or]
  have l3 := l2 (m 8 - 1 - p).toNat (p + 1) p 0 (by omega) (by omega) (by omega)
  rw [cp2_zero] at l3
  rw [V86, B86_0, l1 p.toNat 0 (by omega) (by omega), B86_1]
  simp (disch := omega) only [w3, G_39, gt_in, B86_2, gp, B86_4, l3, xcI_some, xcV_some, if_pos, if_neg, xg_in, wr_of, if_true, if_false, or_true, true_or]
/-- a change is out of the line -/
def outC (C : xM) (c w p n : Int) : xM := up2 (cp2 (up2 C 10 c.toNat w) 40 (p.toNat + 1) 40 p.toNat (n - 1 - p).toNat) 38 1 (n - 1)
def outM (m : Nat → Int) (c w p : Int) : Nat → Int := up1 (cp1 (up1 m 8 (m 8 - 1)) ((49044 + p).toNat + 1) (49044 + p).toNat (m 8 - 1 - p).toNat) (41724 + c).toNat w
theorem K64 {m : Nat → Int} (h : yW μ m) (h7 : 0 ≤ m 7 ∧ m 7 ≤ 60) {c w p : Int} (c0 : 0 ≤ c) (c1 : c < m 7) (p0 : 0 ≤ p) (p1 : p < m 8) (hc : m (49044 + p).toNat = c) : EV sc 64 [vR 1, vI c, vI w] (SK, μ) = some (none, (SK, outC μ c w p (m 8))) := by
  have g := K86 (sc := sc) (yW_fr (C' := up2 μ 10 c.toNat w) h h7 (fun k i hk => up2_ne (by omega)) (fun _ _ => rfl)) p0 p1 hc
  simp (disch := omega) only [V64, B64_0, B64_1, B64_2, V28, B28_0, B28_1, S_9, st_in, g, xcI_some, xcV_some, if_pos, if_neg, xg_in, wr_of, if_true, if_false, or_true, true_or]
  rfl
theorem m200 {m : Nat → Int} {C : xM} (hν : ν 140 = m) (h : yW C m) (h7 : 0 ≤ m 7 ∧ m 7 ≤ 60) {c w p : Int} (c0 : 0 ≤ c) (c1 : c < m 7) (p0 : 0 ≤ p) (p1 : p < m 8) (hc : m (49044 + p).toNat = c) : ∃ ν' : xM, EV sc 200 [vR 139, vI c, vI w] (SK, ν) = some (none, (SK, ν')) ∧ ν' 140 = outM m c w p ∧ frR ν ν' := by
  have k198 := K198 (sc := sc) hν h p0 p1 hc
  have n8 : 0 ≤ m 8 ∧ m 8 ≤ 60 := ⟨h.1, h.2.1⟩
  have l : ∀ k : Nat, ∀ (ν1 : xM) (b : Nat) (i : Int) (j : Nat), ν1 140 8 = m 8 - 1 → b = (49044 + p).toNat → i = p + j → i + k = m 8 - 1 → AT sc 200 2 [vR 139, vI c, vI w, vN, vI i] [] (SK, cp2 ν1 140 (b + 1) 140 b j) = AT sc 200 3 [vR 139, vI c, vI w, vN, vN] [] (SK, cp2 ν1 140 (b + 1) 140 b (m 8 - 1 - p).toNat) := by
    intro k
    induction k with
    | zero =>
      intro ν1 b i j h8 hb hi e
      rw [B200_2]
      simp (disch := omega) only [cp2_out, h8, xcI_some, xcV_some, if_pos, if_neg, xg_in, wr_of, if_true, if_false, or_true, true_or]
      rw [show j = (m 8 - 1 - p).toNat by omega]
    | succ k ih =>
      intro ν1 b i j h8 hb hi e
      have ih1 := ih ν1 b (i + 1) (j + 1) h8 hb (by omega) (by omega)
      have us : up2 (cp2 ν1 140 (b + 1) 140 b j) 140 (49044 + i).toNat (ν1 140 (49044 + i + 1).toNat) = cp2 ν1 140 (b + 1) 140 b (j + 1) := cp2_step (by omega) (by rw [show b + 1 + j = (49044 + i + 1).toNat by omega])
      rw [B200_2]
      simp (disch := omega) only [cp2_out, h8, us, ih1, xcI_some, xcV_some, if_pos, if_neg, xg_in, wr_of, if_true, if_false, or_true, true_or]
  have l1 := l (m 8 - 1 - p).toNat (up2 ν 140 8 (m 8 - 1)) _ p 0 up2_eq rfl (by omega) (by omega)
  rw [cp2_zero] at l1
  refine ⟨up2 (cp2 (up2 ν 140 8 (m 8 - 1)) 140 ((49044 + p).toNat + 1) 140 (49044 + p).toNat (m 8 - 1 - p).toNat) 140 (41724 + c).toNat w, ?_, ?_, ?_⟩
  · simp (disch := omega) only [V200, B200_0, k198, B200_1, hν, l1, B200_3, xcI_some, xcV_some, if_pos, if_neg, xg_in, wr_of, if_true, if_false, or_true, true_or]
  · rw [up2_row, cp2_row, up2_row, hν]
    rfl
  · refine (frR.up (by omega)).tr (frR.tr (fun j hj => cp2_k (by omega)) (frR.up (by omega)))
theorem yK_out {C : xM} {m : Nat → Int} (h : yK C m) {c w p : Int} (c0 : 0 ≤ c) (c1 : c < m 7) (p0 : 0 ≤ p) (p1 : p < m 8) (hc : m (49044 + p).toNat = c) (w0 : w ≠ 0) (w1 : w ≠ 1) : yK (outC C c w p (m 8)) (outM m c w p) := by
  obtain ⟨a1, a2, a3, a4, a5, a6, a7, a8, a9, a10, a11⟩ := h
  have n7 : 0 ≤ m 7 ∧ m 7 ≤ 60 := ⟨a4.1, a4.2.1⟩
  have n0 : 0 ≤ m 0 ∧ m 0 ≤ 60 ∧ C 2 3 = m 0 := a6.1
  have n1 : 0 ≤ m 1 ∧ m 1 ≤ 1152 ∧ C 2 4 = m 1 := a6.2.1
  have n8 : 0 ≤ m 8 ∧ m 8 ≤ 60 := ⟨a7.1, a7.2.1⟩
  have e : ∀ i : Nat, (i ≠ 8 ∧ i ≠ (41724 + c).toNat ∧ ((i : Int) < 49044 + p ∨ 49044 + m 8 - 1 ≤ i)) → outM m c w p i = m i := fun i hi => by
    unfold outM
    rw [up1_ne (by omega), cp1_out (by omega), up1_ne (by omega)]
  have eC : ∀ k i : Nat, ((k ≠ 10 ∨ i ≠ c.toNat) ∧ k ≠ 40 ∧ (k ≠ 38 ∨ i ≠ 1)) → outC C c w p (m 8) k i = C k i := fun k i hi => by
    unfold outC
    rw [up2_ne (by omega), cp2_out (by omega), up2_ne (by omega)]
  have p8 : outM m c w p 8 = m 8 - 1 := by
    unfold outM
    rw [up1_ne (by omega), cp1_out (by omega), up1_eq]
  have pc : outM m c w p (41724 + c).toNat = w := up1_eq
  have qc : outC C c w p (m 8) 10 c.toNat = w := by
    unfold outC
    rw [up2_ne (by omega), cp2_out (by omega), up2_eq]
  have q8 : outC C c w p (m 8) 38 1 = m 8 - 1 := up2_eq
  have pl : ∀ k : Int, p ≤ k → k < m 8 - 1 → outM m c w p (49044 + k).toNat = m (49044 + (k + 1)).toNat := fun k k0 k1 => by
    unfold outM
    rw [up1_ne (by omega), cp1_in (by omega) (by omega), up1_ne (by omega), show (49044 + p).toNat + 1 + ((49044 + k).toNat - (49044 + p).toNat) = (49044 + (k + 1)).toNat by omega]
  have ql : ∀ k : Int, p ≤ k → k < m 8 - 1 → outC C c w p (m 8) 40 k.toNat = C 40 (k + 1).toNat := fun k k0 k1 => by
    unfold outC
    rw [up2_ne (by omega), cp2_in rfl (by omega) (by omega), up2_ne (by omega), show p.toNat + 1 + (k.toNat - p.toNat) = (k + 1).toNat by omega]
  have pl2 : ∀ k : Int, 0 ≤ k → k < p → outM m c w p (49044 + k).toNat = m (49044 + k).toNat := fun k k0 k1 => e _ (by omega)
  have ql2 : ∀ k : Int, 0 ≤ k → k < p → outC C c w p (m 8) 40 k.toNat = C 40 k.toNat := fun k k0 k1 => by
    unfold outC
    rw [up2_ne (by omega), cp2_out (by omega), up2_ne (by omega)]
  have hw1 : m (41724 + c).toNat = 1 := by
    have t := (a7.2.2.2.1 p p0 p1).2.2.2
    rw [hc] at t
    exact t
  have ew : ∀ u : Int, 0 ≤ u → u < m 7 → u ≠ c → outM m c w p (41724 + u).toNat = m (41724 + u).toNat := fun u u0 u1 ne => e _ (by omega)
  refine ⟨yT_fr a1 (fun k i hk => eC k i (by unfold dT at hk; omega)) (fun i hi => e i (by unfold aT at hi; omega)), yL_fr a2 (eC 1 6 (by omega)) (e 5 (by omega)), yG_fr a3 (fun k i hk => eC k i (by omega)) (fun i hi => e i (by omega)), ?_, yE_fr a5 a4 (fun k i hk => eC k i (by unfold dE at hk; omega)) (fun i _ _ => eC 5 i (by omega)) (by rw [e 1 (by omega)]; exact Int.le_refl _) (fun i hi => e i (by unfold aE at hi; omega)), yB_fr a6 ⟨eC 2 3 (by omega), eC 2 4 (by omega)⟩ ⟨e 0 (by omega), e 1 (by omega)⟩ (fun s _ _ k i hk => eC k i (by unfold dS at hk; omega)) (fun i _ _ => eC 5 i (by omega)) (fun s _ _ i hi => e i (by unfold aS at hi; omega)), ?_, ?_, yO_fr a9 a4 a6 a5 ⟨e 0 (by omega), e 7 (by omega)⟩ (fun s _ _ i hi => e i (by unfold aS at hi; omega)) (fun i hi => e i (by omega)), yM_fr a10 a4 (fun i hi => e i (by omega)), ?_⟩
  · exact yA_set a4 (Or.inr (Or.inl ⟨rfl, rfl⟩)) c0 c1 qc pc (fun k i hk hi => eC k i (by unfold dA at hk; omega)) (fun i hk hi => e i (by unfold aA at hk; omega))
  · obtain ⟨w1', w2, w3, w4, w5, w6⟩ := a7
    -- the place of old
    have f : ∀ k : Int, 0 ≤ k → k < m 8 - 1 → ∃ k' : Int, 0 ≤ k' ∧ k' < m 8 ∧ k' ≠ p ∧ (k' = if k < p then k else k + 1) ∧ outM m c w p (49044 + k).toNat = m (49044 + k').toNat ∧ outC C c w p (m 8) 40 k.toNat = C 40 k'.toNat := fun k k0 k1 => by
      by_cases hk : k < p
      · exact ⟨k, k0, by omega, by omega, by rw [if_pos hk], pl2 k k0 hk, ql2 k k0 hk⟩
      · exact ⟨k + 1, by omega, by omega, by omega, by rw [if_neg hk], pl k (by omega) k1, ql k (by omega) k1⟩
    unfold yW
    rw [p8, q8, e 7 (by omega)]
    refine ⟨by omega, by omega, rfl, fun k k0 k1 => ?_, fun j k j0 j1 k0 k1 e2 => ?_, fun d d0 d1 e2 => ?_⟩
    · obtain ⟨k', g0, g1, g2, g3, g4, g5⟩ := f k k0 k1
      have w := w4 k' g0 g1
      have ne : m (49044 + k').toNat ≠ c := fun x => g2 (w5 k' p g0 g1 p0 p1 (x.trans hc.symm))
      rw [g4, g5, ew _ w.2.1 w.2.2.1 ne]
      exact w
    · obtain ⟨j', g0, g1, g2, g3, g4, g5⟩ := f j j0 j1
      obtain ⟨k', i0, i1, i2, i3, i4, i5⟩ := f k k0 k1
      rw [g4, i4] at e2
      have := w5 j' k' g0 g1 i0 i1 e2
      by_cases s1 : j < p <;> by_cases s2 : k < p <;> simp only [s1, s2, if_true, if_false] at g3 i3 <;> omega
    · have ne : d ≠ c := fun x => by rw [x, pc] at e2; exact w1 e2
      rw [ew d d0 d1 ne] at e2
      obtain ⟨k, k0, k1, ek⟩ := w6 d d0 d1 e2
      have np : k ≠ p := fun x => by rw [x, hc] at ek; exact ne ek.symm
      by_cases hk : k < p
      · exact ⟨k, k0, by omega, by rw [pl2 k k0 hk]; exact ek⟩
      · exact ⟨k - 1, by omega, by omega, by rw [pl (k - 1) (by omega) (by omega), show k - 1 + 1 = k by omega]; exact ek⟩
  · refine yP_fr a8 (by rw [e 7 (by omega)]; exact Int.le_refl _) (fun k i hk => eC k i (by omega)) (fun i hi => e i (by omega)) (fun u u0 u1 _ => e (41964 + u).toNat (by omega)) (fun u u0 u1 h => ?_)
    by_cases eu : u = c
    · rw [eu, pc]; exact w0
    · rw [ew u u0 u1 eu]; exact h
  · refine yN_fr a11 a4 (fun i hi => e i (by omega)) (fun u u0 u1 h => ?_) (fun u u0 u1 h => ?_)
    · have eu : u ≠ c := fun eu => by rw [eu] at h; omega
      rw [ew u u0 u1 eu]; exact h
    · have eu : u ≠ c := fun eu => by rw [eu, pc] at h; omega
      rw [ew u u0 u1 eu] at h; exact h
theorem outC_fr {c w p n : Int} : frC μ (outC μ c w p n) := by
  unfold outC
  exact (frC.up (by omega)).tr (frC.tr (fun j hj => cp2_k (by omega)) (frC.up (by omega)))
theorem op_leave (h : yAll μ) {c : Int} : yOp sc 145 201 [vI c] μ := by
  obtain ⟨⟨a1, a2, a3, a4, a5, a6, a7, a8, a9, a10, a11⟩, hk⟩ := id h
  have n6 := a1.1
  have n3 := a1.2.1
  have n5 := a2.2
  have n10 : 0 ≤ μ 140 10 ∧ μ 140 10 ≤ 600 := ⟨a3.1, a3.2.1⟩
  have n7 : 0 ≤ μ 140 7 ∧ μ 140 7 ≤ 60 := ⟨a4.1, a4.2.1⟩
  have n0 : 0 ≤ μ 140 0 ∧ μ 140 0 ≤ 60 ∧ μ 2 3 = μ 140 0 := a6.1
  have n1 : 0 ≤ μ 140 1 ∧ μ 140 1 ≤ 1152 ∧ μ 2 4 = μ 140 1 := a6.2.1
  have n8 : 0 ≤ μ 140 8 ∧ μ 140 8 ≤ 60 := ⟨a7.1, a7.2.1⟩
  have n9 := a8.1
  have c7 := a4.2.2.1
  have c8 := a7.2.2.1
  have c10 := a3.2.2.1
  by_cases hc : 0 ≤ c ∧ c < μ 140 7
  · by_cases hs : μ 140 (41724 + c).toNat = 1
    · obtain ⟨p, p0, p1, hp⟩ := a7.2.2.2.2.2 c hc.1 hc.2 hs
      have k64 := K64 (sc := sc) (w := 7) a7 n7 hc.1 hc.2 p0 p1 hp
      refine .mk h 1 (outC μ c 7 p (μ 140 8)) (outM (μ 140) c 7 p) ?_ outC_fr (fun ν hν => ?_) (yK_out h.1 hc.1 hc.2 p0 p1 hp (by omega) (by omega))
      · simp (disch := omega) only [V145, B145_0, B145_1, B145_2, B145_3, B145_4, B145_5, cChange_t, q27 a4 hc.1 hc.2, hs, k64, xcI_some, xcV_some, if_pos, if_neg, xg_in, wr_of, if_true, if_false, or_true, true_or]
      · obtain ⟨ν', e1, e2, e3⟩ := m200 (sc := sc) (w := 7) (ν := up2 ν 139 3 0) (by rw [up2_k (by omega)]; exact hν) a7 n7 hc.1 hc.2 p0 p1 hp
        refine ⟨ν', ?_, e2, frM.th.tr e3.M⟩
        simp (disch := omega) only [V201, B201_0, B201_1, B201_2, B201_3, B201_4, mChange_t' (congrFun hν 7), up2_ne, hν, hs, e1, xcI_some, xcV_some, if_pos, if_neg, xg_in, wr_of, if_true, if_false, or_true, true_or]
    · refine .same h (-3) ?_ fun ν hν => ?_
      · simp (disch := omega) only [V145, B145_0, B145_1, B145_2, B145_3, B145_4, B145_5, cChange_t, q27 a4 hc.1 hc.2, xcI_some, xcV_some, if_pos, if_neg, xg_in, wr_of, if_true, if_false, or_true, true_or]
      · simp (disch := omega) only [V201, B201_0, B201_1, B201_2, B201_3, B201_4, mChange_t' (congrFun hν 7), up2_ne, hν, xcI_some, xcV_some, if_pos, if_neg, xg_in, wr_of, if_true, if_false, or_true, true_or]
  · refine .same h (-2) ?_ fun ν hν => ?_
    · simp (disch := omega) only [V145, B145_0, B145_1, B145_2, B145_3, B145_4, B145_5, cChange_f, xcI_some, xcV_some, if_pos, if_neg, xg_in, wr_of, if_true, if_false, or_true, true_or]
    · simp (disch := omega) only [V201, B201_0, B201_1, B201_2, B201_3, B201_4, mChange_f' (congrFun hν 7), xcI_some, xcV_some, if_pos, if_neg, xg_in, wr_of, if_true, if_false, or_true, true_or]
end

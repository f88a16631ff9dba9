/-! revert -/
def tuC (μ : xM) (x y : Int) : xM := fl2 (fl2 (up2 (up2 (up2 (up2 (up2 μ 25 y.toNat (μ 25 x.toNat)) 27 y.toNat (μ 27 x.toNat)) 29 y.toNat (μ 29 x.toNat)) 31 y.toNat (μ 33 x.toNat)) 33 y.toNat (μ 31 x.toNat)) 35 (6 * y).toNat 6 (fun i => μ 37 (6 * x + (i : Int)).toNat)) 37 (6 * y).toNat 6 (fun i => μ 35 (6 * x + (i : Int)).toNat)
def tuJ (μ : xM) (c r : Int) : Nat → xM
  | 0 => μ
  | k + 1 => tuC (tuJ μ c r k) (4 * c + (k : Int)) (4 * r + (k : Int))
def tuM (m : Nat → Int) (x y : Int) : Nat → Int := fl1 (fl1 (fl1 (fl1 (up1 (up1 (up1 (up1 (up1 m (42084 + y).toNat (m (42084 + x).toNat)) (42804 + y).toNat (m (42804 + x).toNat)) (43044 + y).toNat (m (43044 + x).toNat)) (42324 + y).toNat (m (42564 + x).toNat)) (42564 + y).toNat (m (42324 + x).toNat))
  (43284 + 6 * y).toNat 6 (fun i => m (46164 + 6 * x + (i : Int)).toNat)) (44724 + 6 * y).toNat 6 (fun i => m (47604 + 6 * x + (i : Int)).toNat)) (46164 + 6 * y).toNat 6 (fun i => m (43284 + 6 * x + (i : Int)).toNat)) (47604 + 6 * y).toNat 6 (fun i => m (44724 + 6 * x + (i : Int)).toNat)
def tuI (m : Nat → Int) (c r : Int) : Nat → Nat → Int
  | 0 => m
  | k + 1 => tuM (tuI m c r k) (4 * c + (k : Int)) (4 * r + (k : Int))
theorem tuC_ne {μ : xM} {x y : Int} {k i : Nat} (y0 : 0 ≤ y) (h : ((k ≠ 25 ∧ k ≠ 27 ∧ k ≠ 29 ∧ k ≠ 31 ∧ k ≠ 33) ∨ (i : Int) ≠ y) ∧ ((k ≠ 35 ∧ k ≠ 37) ∨ (i : Int) < 6 * y ∨ 6 * y + 6 ≤ i)) : tuC μ x y k i = μ k i := by
  unfold tuC
  simp (disch := omega) only [fl2_out, up2_ne]
theorem tuM_ne {m : Nat → Int} {x y : Int} {i : Nat} (y0 : 0 ≤ y) (h : ¬ aEe y i) : tuM m x y i = m i := by
  unfold aEe at h
  unfold tuM
  simp (disch := omega) only [fl1_out, up1_ne]
/-- edit y is edit x turned -/
def tnC (μ μ' : xM) (x y : Int) : Prop := μ' 25 y.toNat = μ 25 x.toNat ∧ μ' 27 y.toNat = μ 27 x.toNat ∧ μ' 29 y.toNat = μ 29 x.toNat ∧ μ' 31 y.toNat = μ 33 x.toNat ∧ μ' 33 y.toNat = μ 31 x.toNat ∧ ∀ i : Int, 0 ≤ i → i < 6 → μ' 35 (6 * y + i).toNat = μ 37 (6 * x + i).toNat ∧ μ' 37 (6 * y + i).toNat = μ 35 (6 * x + i).toNat
def tnM (m m' : Nat → Int) (x y : Int) : Prop := m' (42084 + y).toNat = m (42084 + x).toNat ∧ m' (42804 + y).toNat = m (42804 + x).toNat ∧ m' (43044 + y).toNat = m (43044 + x).toNat ∧ m' (42324 + y).toNat = m (42564 + x).toNat ∧ m' (42564 + y).toNat = m (42324 + x).toNat ∧
  ∀ i : Int, 0 ≤ i → i < 6 → m' (43284 + 6 * y + i).toNat = m (46164 + 6 * x + i).toNat ∧ m' (44724 + 6 * y + i).toNat = m (47604 + 6 * x + i).toNat ∧ m' (46164 + 6 * y + i).toNat = m (43284 + 6 * x + i).toNat ∧ m' (47604 + 6 * y + i).toNat = m (44724 + 6 * x + i).toNat
theorem tuC_tn {μ : xM} {x y : Int} (x0 : 0 ≤ x) (y0 : 0 ≤ y) : tnC μ (tuC μ x y) x y := by
  unfold tnC tuC
  refine ⟨?_, ?_, ?_, ?_, ?_, fun i i0 i1 => ⟨?_, ?_⟩⟩
  · simp (disch := omega) only [fl2_out, up2_ne, up2_eq]
  · simp (disch := omega) only [fl2_out, up2_ne, up2_eq]
  · simp (disch := omega) only [fl2_out, up2_ne, up2_eq]
  · simp (disch := omega) only [fl2_out, up2_ne, up2_eq]
  · simp (disch := omega) only [fl2_out, up2_ne, up2_eq]
  · simp (disch := omega) only [fl2_out, fl2_in]
    rw [show ((((6 * y + i).toNat - (6 * y).toNat : Nat)) : Int) = i by omega]
  · simp (disch := omega) only [fl2_in]
    rw [show ((((6 * y + i).toNat - (6 * y).toNat : Nat)) : Int) = i by omega]
theorem tuM_tn {m : Nat → Int} {x y : Int} (x0 : 0 ≤ x) (y0 : 0 ≤ y) (y1 : y < 240) : tnM m (tuM m x y) x y := by
  unfold tnM tuM
  refine ⟨?_, ?_, ?_, ?_, ?_, fun i i0 i1 => ⟨?_, ?_, ?_, ?_⟩⟩
  · simp (disch := omega) only [fl1_out, up1_ne, up1_eq]
  · simp (disch := omega) only [fl1_out, up1_ne, up1_eq]
  · simp (disch := omega) only [fl1_out, up1_ne, up1_eq]
  · simp (disch := omega) only [fl1_out, up1_ne, up1_eq]
  · simp (disch := omega) only [fl1_out, up1_ne, up1_eq]
  · simp (disch := omega) only [fl1_out, fl1_in]
    rw [show ((((43284 + 6 * y + i).toNat - (43284 + 6 * y).toNat : Nat)) : Int) = i by omega]
  · simp (disch := omega) only [fl1_out, fl1_in]
    rw [show ((((44724 + 6 * y + i).toNat - (44724 + 6 * y).toNat : Nat)) : Int) = i by omega]
  · simp (disch := omega) only [fl1_out, fl1_in]
    rw [show ((((46164 + 6 * y + i).toNat - (46164 + 6 * y).toNat : Nat)) : Int) = i by omega]
  · simp (disch := omega) only [fl1_in]
    rw [show ((((47604 + 6 * y + i).toNat - (47604 + 6 * y).toNat : Nat)) : Int) = i by omega]
theorem tuJ_ne {μ : xM} {c r : Int} (r0 : 0 ≤ r) {k i : Nat} : ∀ n : Nat, n ≤ 4 → (((k ≠ 25 ∧ k ≠ 27 ∧ k ≠ 29 ∧ k ≠ 31 ∧ k ≠ 33) ∨ (i : Int) < 4 * r ∨ 4 * r + 4 ≤ i) ∧ ((k ≠ 35 ∧ k ≠ 37) ∨ (i : Int) < 24 * r ∨ 24 * r + 24 ≤ i)) → tuJ μ c r n k i = μ k i := by
  intro n
  induction n with
  | zero => intro _ _; rfl
  | succ n ih =>
    intro hn h
    show tuC (tuJ μ c r n) _ _ k i = _
    rw [tuC_ne (by omega) (by omega), ih (by omega) h]
theorem tuI_ne {m : Nat → Int} {c r : Int} (r0 : 0 ≤ r) {i : Nat} : ∀ n : Nat, n ≤ 4 → (∀ j : Int, 0 ≤ j → j < 4 → ¬ aEe (4 * r + j) i) → tuI m c r n i = m i := by
  intro n
  induction n with
  | zero => intro _ _; rfl
  | succ n ih =>
    intro hn h
    show tuM (tuI m c r n) _ _ i = _
    rw [tuM_ne (by omega) (h n (by omega) (by omega)), ih (by omega) h]
theorem tuJ_tn {μ : xM} {c r : Int} (c0 : 0 ≤ c) (cr : c < r) : ∀ n : Nat, n ≤ 4 → ∀ j : Int, 0 ≤ j → j < n → tnC μ (tuJ μ c r n) (4 * c + j) (4 * r + j) := by
  intro n
  induction n with
  | zero => intro _ j j0 j1; omega
  | succ n ih =>
    intro hn j j0 j1
    by_cases e : j = n
    · subst e
      have g := tuC_tn (μ := tuJ μ c r n) (x := 4 * c + (n : Int)) (y := 4 * r + (n : Int)) (by omega) (by omega)
      have o : ∀ k i : Nat, (i : Int) < 4 * r ∨ (24 * c ≤ i ∧ (i : Int) < 24 * c + 24 ∧ (k = 35 ∨ k = 37)) → (k ≠ 35 ∧ k ≠ 37) ∨ (24 * c ≤ i ∧ (i : Int) < 24 * c + 24) → tuJ μ c r n k i = μ k i := fun k i h1 h2 => tuJ_ne (by omega) n (by omega) (by omega)
      obtain ⟨g1, g2, g3, g4, g5, g6⟩ := g
      refine ⟨?_, ?_, ?_, ?_, ?_, fun i i0 i1 => ⟨?_, ?_⟩⟩
      · exact g1.trans (o _ _ (by omega) (by omega))
      · exact g2.trans (o _ _ (by omega) (by omega))
      · exact g3.trans (o _ _ (by omega) (by omega))
      · exact g4.trans (o _ _ (by omega) (by omega))
      · exact g5.trans (o _ _ (by omega) (by omega))
      · exact (g6 i i0 i1).1.trans (o _ _ (by omega) (by omega))
      · exact (g6 i i0 i1).2.trans (o _ _ (by omega) (by omega))
    · have g := ih (by omega) j j0 (by omega)
      have o : ∀ k i : Nat, (((k ≠ 25 ∧ k ≠ 27 ∧ k ≠ 29 ∧ k ≠ 31 ∧ k ≠ 33) ∨ (i : Int) ≠ 4 * r + n) ∧ ((k ≠ 35 ∧ k ≠ 37) ∨ (i : Int) < 6 * (4 * r + n) ∨ 6 * (4 * r + n) + 6 ≤ i)) → tuJ μ c r (n + 1) k i = tuJ μ c r n k i := fun k i h => tuC_ne (by omega) h
      obtain ⟨g1, g2, g3, g4, g5, g6⟩ := g
      refine ⟨?_, ?_, ?_, ?_, ?_, fun i i0 i1 => ⟨?_, ?_⟩⟩
      · exact (o _ _ (by omega)).trans g1
      · exact (o _ _ (by omega)).trans g2
      · exact (o _ _ (by omega)).trans g3
      · exact (o _ _ (by omega)).trans g4
      · exact (o _ _ (by omega)).trans g5
      · exact (o _ _ (by omega)).trans (g6 i i0 i1).1
      · exact (o _ _ (by omega)).trans (g6 i i0 i1).2
theorem tuI_tn {m : Nat → Int} {c r : Int} (c0 : 0 ≤ c) (cr : c < r) (r1 : r < 60) : ∀ n : Nat, n ≤ 4 → ∀ j : Int, 0 ≤ j → j < n → tnM m (tuI m c r n) (4 * c + j) (4 * r + j) := by
  intro n
  induction n with
  | zero => intro _ j j0 j1; omega
  | succ n ih =>
    intro hn j j0 j1
    by_cases e : j = n
    · subst e
      have g := tuM_tn (m := tuI m c r n) (x := 4 * c + (n : Int)) (y := 4 * r + (n : Int)) (by omega) (by omega) (by omega)
      have o : ∀ i : Nat, aEe (4 * c + (n : Int)) i → tuI m c r n i = m i := fun i h => tuI_ne (by omega) n (by omega) (fun j j0 j1 h2 => by unfold aEe at h h2; omega)
      obtain ⟨g1, g2, g3, g4, g5, g6⟩ := g
      refine ⟨?_, ?_, ?_, ?_, ?_, fun i i0 i1 => ⟨?_, ?_, ?_, ?_⟩⟩
      · exact g1.trans (o _ (by unfold aEe; omega))
      · exact g2.trans (o _ (by unfold aEe; omega))
      · exact g3.trans (o _ (by unfold aEe; omega))
      · exact g4.trans (o _ (by unfold aEe; omega))
      · exact g5.trans (o _ (by unfold aEe; omega))
      · exact (g6 i i0 i1).1.trans (o _ (by unfold aEe; omega))
      · exact (g6 i i0 i1).2.1.trans (o _ (by unfold aEe; omega))
      · exact (g6 i i0 i1).2.2.1.trans (o _ (by unfold aEe; omega))
      · exact (g6 i i0 i1).2.2.2.trans (o _ (by unfold aEe; omega))
    · have g := ih (by omega) j j0 (by omega)
      have o : ∀ i : Nat, aEe (4 * r + j) i → tuI m c r (n + 1) i = tuI m c r n i := fun i h => tuM_ne (by omega) (fun h2 => by unfold aEe at h h2; omega)
      obtain ⟨g1, g2, g3, g4, g5, g6⟩ := g
      refine ⟨?_, ?_, ?_, ?_, ?_, fun i i0 i1 => ⟨?_, ?_, ?_, ?_⟩⟩
      · exact (o _ (by unfold aEe; omega)).trans g1
      · exact (o _ (by unfold aEe; omega)).trans g2
      · exact (o _ (by unfold aEe; omega)).trans g3
      · exact (o _ (by unfold aEe; omega)).trans g4
      · exact (o _ (by unfold aEe; omega)).trans g5
      · exact (o _ (by unfold aEe; omega)).trans (g6 i i0 i1).1
      · exact (o _ (by unfold aEe; omega)).trans (g6 i i0 i1).2.1
      · exact (o _ (by unfold aEe; omega)).trans (g6 i i0 i1).2.2.1
      · exact (o _ (by unfold aEe; omega)).trans (g6 i i0 i1).2.2.2
section
variable {sc : Nat × (Nat → Int)} {μ ν C : xM} {m : Nat → Int}
theorem K55 {x y : Int} (x0 : 0 ≤ x) (x1 : x < 244) (y0 : 0 ≤ y) (y1 : y < 244) (hxy : x ≠ y) : EV sc 55 [vR 23, vI x, vI y] (SK, μ) = some (none, (SK, tuC μ x y)) := by
  have l : ∀ (Y : xM), (∀ i : Nat, Y 35 i = μ 35 i ∧ Y 37 i = μ 37 i) → ∀ (k j : Nat) (i : Int), i = j → j + k = 6 → AT sc 55 11 [vR 23, vI x, vI y, vI i] [] (SK, fl2 (fl2 Y 35 (6 * y).toNat j (fun i => μ 37 (6 * x + (i : Int)).toNat)) 37 (6 * y).toNat j (fun i => μ 35 (6 * x + (i : Int)).toNat)) =
      some (none, (SK, fl2 (fl2 Y 35 (6 * y).toNat 6 (fun i => μ 37 (6 * x + (i : Int)).toNat)) 37 (6 * y).toNat 6 (fun i => μ 35 (6 * x + (i : Int)).toNat))) := by
    intro Y hY k
    induction k with
    | zero =>
      intro j i hi e
      rw [B55_11]
      simp (disch := omega) only [B55_16, xcI_some, xcV_some, if_pos, if_neg, xg_in, wr_of, if_true, if_false, or_true, true_or]
      rw [show j = 6 by omega]
    | succ k ih =>
      intro j i hi e
      have ih1 := ih (j + 1) (i + 1) (by omega) (by omega)
      have a1 := (hY (6 * x + i).toNat).1
      have a2 := (hY (6 * x + i).toNat).2
      have ix : x * 6 + i = 6 * x + i := by omega
      have iy : y * 6 + i = 6 * y + i := by omega
      have u1 : up2 (up2 (fl2 (fl2 Y 35 (6 * y).toNat j (fun i => μ 37 (6 * x + (i : Int)).toNat)) 37 (6 * y).toNat j (fun i => μ 35 (6 * x + (i : Int)).toNat)) 35 (6 * y + i).toNat (μ 37 (6 * x + i).toNat)) 37 (6 * y + i).toNat (μ 35 (6 * x + i).toNat) =
          fl2 (fl2 Y 35 (6 * y).toNat (j + 1) (fun i => μ 37 (6 * x + (i : Int)).toNat)) 37 (6 * y).toNat (j + 1) (fun i => μ 35 (6 * x + (i : Int)).toNat) := by
        rw [fl2_up (k := 35) (by omega), fl2_step (a := 35) (by omega) (by rw [hi]), fl2_step (by omega) (by rw [hi])]
      rw [B55_11]
      simp (disch := omega) only [G_36, gt_in, ix, iy, fl2_out, a2, B55_12, S_34, st_in, B55_13, G_34, up2_ne, a1, B55_14, S_36, u1, B55_15, ih1, xcI_some, xcV_some, if_pos, if_neg, xg_in, wr_of, if_true, if_false, or_true, true_or]
  have l0 := l (up2 (up2 (up2 (up2 (up2 μ 25 y.toNat (μ 25 x.toNat)) 27 y.toNat (μ 27 x.toNat)) 29 y.toNat (μ 29 x.toNat)) 31 y.toNat (μ 33 x.toNat)) 33 y.toNat (μ 31 x.toNat)) (fun i => ⟨by simp (disch := omega) only [up2_ne], by simp (disch := omega) only [up2_ne]⟩) 6 0 0 rfl rfl
  rw [fl2_0, fl2_0] at l0
  simp (disch := omega) only [V55, B55_0, B55_1, B55_2, B55_3, B55_4, B55_5, B55_6, B55_7, B55_8, B55_9, B55_10, G_24, G_26, G_28, G_30, G_32, gt_in, S_24, S_26, S_28, S_30, S_32, st_in, up2_ne, l0, xcI_some, xcV_some, if_pos, if_neg, xg_in, wr_of, if_true, if_false, or_true, true_or]
  rfl
theorem K43 {c r n : Int} (c0 : 0 ≤ c) (cr : c < r) (r1 : r ≤ 60) (hn : μ 22 c.toNat = n) (n0 : 0 ≤ n) (n4 : n ≤ 4) : EV sc 43 [vR 6, vI c, vI r] (SK, μ) = some (none, (SK, up2 (tuJ μ c r n.toNat) 22 r.toNat n)) := by
  have q : EV sc 33 [vR 6, vI c] (SK, μ) = some (some (vI n), (SK, μ)) := by
    rw [V33, B33_0, G_21, xcI_some, B33_1, gt_in c0 (by omega), hn]
  have l : ∀ (k j : Nat) (i : Int), i = j → j + k = n.toNat → AT sc 43 2 [vR 6, vI c, vI r, vI n, vI i] [] (SK, tuJ μ c r j) = some (none, (SK, up2 (tuJ μ c r n.toNat) 22 r.toNat n)) := by
    intro k
    induction k with
    | zero =>
      intro j i hi e
      rw [B43_2]
      simp (disch := omega) only [B43_4, S_21, st_in, B43_5, xcI_some, xcV_some, if_pos, if_neg, xg_in, wr_of, if_true, if_false, or_true, true_or]
      rw [show j = n.toNat by omega]
    | succ k ih =>
      intro j i hi e
      have ih1 := ih (j + 1) (i + 1) (by omega) (by omega)
      have ix : c * 4 + i = 4 * c + i := by omega
      have iy : r * 4 + i = 4 * r + i := by omega
      have k55 := K55 (sc := sc) (μ := tuJ μ c r j) (x := 4 * c + i) (y := 4 * r + i) (by omega) (by omega) (by omega) (by omega) (by omega)
      have u : tuC (tuJ μ c r j) (4 * c + i) (4 * r + i) = tuJ μ c r (j + 1) := by rw [hi]; rfl
      rw [u] at k55
      rw [B43_2]
      simp (disch := omega) only [ix, iy, k55, B43_3, ih1, xcI_some, xcV_some, if_pos, if_neg, xg_in, wr_of, if_true, if_false, or_true, true_or]
  have l0 := l n.toNat 0 0 rfl (by omega)
  rw [show tuJ μ c r 0 = μ from rfl] at l0
  simp (disch := omega) only [V43, B43_0, q, B43_1, l0, xcI_some, xcV_some, if_pos, if_neg, xg_in, wr_of, if_true, if_false, or_true, true_or]
theorem m192_it (hν : ν 140 = m) {c r n j : Int} (c0 : 0 ≤ c) (cr : c < r) (r1 : r < 60) (hn : m (41904 + c).toNat = n) (n4 : n ≤ 4) (j0 : 0 ≤ j) (jn : j < n) : ∃ ν' : xM, AT sc 192 14 [vR 139, vI c, vN, vI r, vI j, vN, vN, vN] [] (SK, ν) = AT sc 192 14 [vR 139, vI c, vN, vI r, vI (j + 1), vN, vN, vN] [] (SK, ν') ∧ ν' 140 = tuM m (4 * c + j) (4 * r + j) ∧ frM ν ν' := by
  have hx0 : 0 ≤ 4 * c + j := by omega
  have hx1 : 4 * c + j < 240 := by omega
  have hy0 : 0 ≤ 4 * r + j := by omega
  have hy1 : 4 * r + j < 240 := by omega
  have hxy : 4 * c + j ≠ 4 * r + j := by omega
  generalize hx : 4 * c + j = x at *
  generalize hy : 4 * r + j = y at *
  have l : ∀ (Y : xM), (∀ i : Nat, 43284 ≤ i → Y 140 i = m i) → ∀ (k t : Nat) (i : Int), i = t → t + k = 6 → AT sc 192 20 [vR 139, vI c, vN, vI r, vI j, vI x, vI y, vI i] [] (SK, fl2 (fl2 (fl2 (fl2 Y 140 (43284 + 6 * y).toNat t (fun i => m (46164 + 6 * x + (i : Int)).toNat)) 140 (44724 + 6 * y).toNat t (fun i => m (47604 + 6 * x + (i : Int)).toNat)) 140 (46164 + 6 * y).toNat t (fun i => m (43284 + 6 * x + (i : Int)).toNat)) 140 (47604 + 6 * y).toNat t (fun i => m (44724 + 6 * x + (i : Int)).toNat)) =
      AT sc 192 25 [vR 139, vI c, vN, vI r, vI j, vN, vN, vN] [] (SK, fl2 (fl2 (fl2 (fl2 Y 140 (43284 + 6 * y).toNat 6 (fun i => m (46164 + 6 * x + (i : Int)).toNat)) 140 (44724 + 6 * y).toNat 6 (fun i => m (47604 + 6 * x + (i : Int)).toNat)) 140 (46164 + 6 * y).toNat 6 (fun i => m (43284 + 6 * x + (i : Int)).toNat)) 140 (47604 + 6 * y).toNat 6 (fun i => m (44724 + 6 * x + (i : Int)).toNat)) := by
    intro Y hY k
    induction k with
    | zero =>
      intro t i hi e
      rw [B192_20]
      simp (disch := omega) only [xcI_some, xcV_some, if_pos, if_neg, xg_in, wr_of, if_true, if_false, or_true, true_or]
      rw [show t = 6 by omega]
    | succ k ih =>
      intro t i hi e
      have ih1 := ih (t + 1) (i + 1) (by omega) (by omega)
      have u1 : up2 (up2 (up2 (up2 (fl2 (fl2 (fl2 (fl2 Y 140 (43284 + 6 * y).toNat t (fun i => m (46164 + 6 * x + (i : Int)).toNat)) 140 (44724 + 6 * y).toNat t (fun i => m (47604 + 6 * x + (i : Int)).toNat)) 140 (46164 + 6 * y).toNat t (fun i => m (43284 + 6 * x + (i : Int)).toNat)) 140 (47604 + 6 * y).toNat t (fun i => m (44724 + 6 * x + (i : Int)).toNat))
          140 (43284 + 6 * y + i).toNat (m (46164 + 6 * x + i).toNat)) 140 (44724 + 6 * y + i).toNat (m (47604 + 6 * x + i).toNat)) 140 (46164 + 6 * y + i).toNat (m (43284 + 6 * x + i).toNat)) 140 (47604 + 6 * y + i).toNat (m (44724 + 6 * x + i).toNat) =
          fl2 (fl2 (fl2 (fl2 Y 140 (43284 + 6 * y).toNat (t + 1) (fun i => m (46164 + 6 * x + (i : Int)).toNat)) 140 (44724 + 6 * y).toNat (t + 1) (fun i => m (47604 + 6 * x + (i : Int)).toNat)) 140 (46164 + 6 * y).toNat (t + 1) (fun i => m (43284 + 6 * x + (i : Int)).toNat)) 140 (47604 + 6 * y).toNat (t + 1) (fun i => m (44724 + 6 * x + (i : Int)).toNat) := by
        rw [fl2_up (i := (43284 + 6 * y + i).toNat) (by omega), fl2_up (i := (43284 + 6 * y + i).toNat) (by omega), fl2_up (i := (43284 + 6 * y + i).toNat) (by omega), fl2_step (i := (43284 + 6 * y + i).toNat) (by omega) (by rw [hi]),
          fl2_up (i := (44724 + 6 * y + i).toNat) (by omega), fl2_up (i := (44724 + 6 * y + i).toNat) (by omega), fl2_step (i := (44724 + 6 * y + i).toNat) (by omega) (by rw [hi]), fl2_up (i := (46164 + 6 * y + i).toNat) (by omega), fl2_step (i := (46164 + 6 * y + i).toNat) (by omega) (by rw [hi]), fl2_step (by omega) (by rw [hi])]
      rw [B192_20]
      simp (disch := omega) only [fl2_out, hY, B192_21, up2_ne, B192_22, B192_23, u1, B192_24, ih1, xcI_some, xcV_some, if_pos, if_neg, xg_in, wr_of, if_true, if_false, or_true, true_or]
  have l0 := l (up2 (up2 (up2 (up2 (up2 ν 140 (42084 + y).toNat (m (42084 + x).toNat)) 140 (42804 + y).toNat (m (42804 + x).toNat)) 140 (43044 + y).toNat (m (43044 + x).toNat)) 140 (42324 + y).toNat (m (42564 + x).toNat)) 140 (42564 + y).toNat (m (42324 + x).toNat)) (fun i hi => by simp (disch := omega) only [up2_ne, hν]) 6 0 0 rfl rfl
  rw [fl2_0, fl2_0, fl2_0, fl2_0] at l0
  refine ⟨fl2 (fl2 (fl2 (fl2 (up2 (up2 (up2 (up2 (up2 ν 140 (42084 + y).toNat (m (42084 + x).toNat)) 140 (42804 + y).toNat (m (42804 + x).toNat)) 140 (43044 + y).toNat (m (43044 + x).toNat)) 140 (42324 + y).toNat (m (42564 + x).toNat)) 140 (42564 + y).toNat (m (42324 + x).toNat)) 140 (43284 + 6 * y).toNat 6 (fun i => m (46164 + 6 * x + (i : Int)).toNat)) 140 (44724 + 6 * y).toNat 6 (fun i => m (47604 + 6 * x + (i : Int)).toNat)) 140 (46164 + 6 * y).toNat 6 (fun i => m (43284 + 6 * x + (i : Int)).toNat)) 140 (47604 + 6 * y).toNat 6 (fun i => m (44724 + 6 * x + (i : Int)).toNat), ?_, ?_, ?_⟩
  · rw [B192_14]
    simp (disch := omega) only [hν, hn, hx, hy, B192_15, B192_16, B192_17, B192_18, B192_19, up2_ne, l0, B192_25, xcI_some, xcV_some, if_pos, if_neg, xg_in, wr_of, if_true, if_false, or_true, true_or]
  · simp only [fl2_row, up2_row, hν]
    rfl
  · exact (frM.up (by omega)).tr ((frM.up (by omega)).tr ((frM.up (by omega)).tr ((frM.up (by omega)).tr ((frM.up (by omega)).tr ((frM.fl (by omega)).tr ((frM.fl (by omega)).tr ((frM.fl (by omega)).tr (frM.fl (by omega)))))))))
theorem m192_14 (hν : ν 140 = m) {c r n : Int} (c0 : 0 ≤ c) (cr : c < r) (r1 : r < 60) (hn : m (41904 + c).toNat = n) (n0 : 0 ≤ n) (n4 : n ≤ 4) : ∃ ν' : xM, AT sc 192 14 [vR 139, vI c, vN, vI r, vI 0, vN, vN, vN] [] (SK, ν) = some (some (vI r), (SK, ν')) ∧ ν' 140 = tuI m c r n.toNat ∧ frM ν ν' := by
  have l : ∀ (k j : Nat) (i : Int) (ν1 : xM), i = j → j + k = n.toNat → ν1 140 = tuI m c r j → ∃ ν' : xM, AT sc 192 14 [vR 139, vI c, vN, vI r, vI i, vN, vN, vN] [] (SK, ν1) = some (some (vI r), (SK, ν')) ∧ ν' 140 = tuI m c r n.toNat ∧ frM ν1 ν' := by
    intro k
    induction k with
    | zero =>
      intro j i ν1 hi e h1
      have h2 : ν1 140 (41904 + c).toNat = n := by rw [h1, tuI_ne (by omega) j (by omega) (fun j j0 j1 h2 => by unfold aEe at h2; omega), hn]
      refine ⟨ν1, ?_, by rw [h1, show j = n.toNat by omega], .rf⟩
      rw [B192_14]
      simp (disch := omega) only [h2, B192_26, xcI_some, xcV_some, if_pos, if_neg, xg_in, wr_of, if_true, if_false, or_true, true_or]
    | succ k ih =>
      intro j i ν1 hi e h1
      have h2 : tuI m c r j (41904 + c).toNat = n := by rw [tuI_ne (by omega) j (by omega) (fun j j0 j1 h2 => by unfold aEe at h2; omega), hn]
      obtain ⟨ν2, e1, e2, e3⟩ := m192_it (sc := sc) (j := i) h1 c0 cr r1 h2 n4 (by omega) (by omega)
      have u : tuM (tuI m c r j) (4 * c + i) (4 * r + i) = tuI m c r (j + 1) := by rw [hi]; rfl
      obtain ⟨ν', f1, f2, f3⟩ := ih (j + 1) (i + 1) ν2 (by omega) (by omega) (e2.trans u)
      exact ⟨ν', by rw [e1, f1], f2, e3.tr f3⟩
  exact l n.toNat 0 0 ν rfl (by omega) hν
/-- whether a change's reverse fits -/
def fitR (m : Nat → Int) (s e : Int) : Int → Prop := fitG m s (m (42084 + e).toNat) (m (42804 + e).toNat) (m (43044 + e).toNat) (m (42564 + e).toNat) (m (42324 + e).toNat) (46164 + 6 * e)
def fitB (m : Nat → Int) (s c : Int) : Prop := ∀ k : Nat, (k : Int) < m (41904 + c).toNat → plc (fitR m s (4 * c + (k : Int))) ≠ -1
theorem m192_5 {s : Int} (hν : ν 140 = m) (hs : m 0 = s) (hA : yA C m) (hE : yE C m) (hF : ∀ f : Int, 0 ≤ f → f < 8 → yF C m s s f) (hN : ∀ f : Int, 0 ≤ f → f < 8 → ndF m s f) (s0 : 0 ≤ s) (s1 : s < 63) {c : Int} (c0 : 0 ≤ c) (c1 : c < m 7) : AT sc 192 5 [vR 139, vI c, vI 1, vI (4 * c), vN, vN, vN, vN] [] (SK, ν) = AT sc 192 9 [vR 139, vI c, vI (bI (fitB m s c)), vN, vN, vN, vN, vN] [] (SK, ν) := by
  have h7 := hA.2.1
  have hn := (hA.2.2.2 c c0 c1).2.1
  have l : ∀ (k j : Nat) (x : Int), x = 4 * c + j → j + k = (m (41904 + c).toNat).toNat → (∀ k : Nat, k < j → plc (fitR m s (4 * c + (k : Int))) ≠ -1) → AT sc 192 5 [vR 139, vI c, vI 1, vI x, vN, vN, vN, vN] [] (SK, ν) = AT sc 192 9 [vR 139, vI c, vI (bI (fitB m s c)), vN, vN, vN, vN, vN] [] (SK, ν) := by
    intro k
    induction k with
    | zero =>
      intro j x hx e ha
      rw [B192_5, bI_t (show fitB m s c from fun k hk => ha k (by omega))]
      simp (disch := omega) only [hν, xcI_some, xcV_some, if_pos, if_neg, xg_in, wr_of, if_true, if_false, or_true, true_or]
    | succ k ih =>
      intro j x hx e ha
      have he := (hE c c0 c1).1 (j : Int) (by omega) (by omega)
      rw [← hx] at he
      have hf := he.2.1
      have t := m187_b (sc := sc) hν (hF _ hf.1 (by omega)) (hN _ hf.1 (by omega)) s0 (by omega) (show 0 ≤ x by omega) (by omega) he
      rw [B192_5]
      by_cases ok : plc (fitR m s x) = -1
      · have nf : ¬ fitB m s c := fun h => h j (by omega) (by rw [← hx]; exact ok)
        unfold fitR at ok
        rw [ok] at t
        rw [bI_f nf]
        clear ha ih
        simp (disch := omega) only [hν, hs, t, B192_6, B192_7, B192_8, xcI_some, xcV_some, if_pos, if_neg, xg_in, wr_of, if_true, if_false, or_true, true_or]
        rw [B192_5]
        by_cases h3 : x + 1 < 4 * c + m (41904 + c).toNat
        · simp (disch := omega) only [hν, xcI_some, xcV_some, if_pos, if_neg, xg_in, wr_of, if_true, if_false, or_true, true_or]
        · simp (disch := omega) only [hν, xcI_some, xcV_some, if_pos, if_neg, xg_in, wr_of, if_true, if_false, or_true, true_or]
      · have ih1 := ih (j + 1) (x + 1) (by omega) (by omega) (fun k hk => by
          by_cases e2 : k = j
          · rw [e2, ← hx]; exact ok
          · exact ha k (by omega))
        unfold fitR at ok
        clear ha ih
        simp (disch := omega) only [hν, hs, t, B192_6, B192_8, ih1, xcI_some, xcV_some, if_pos, if_neg, xg_in, wr_of, if_true, if_false, or_true, true_or]
  exact l (m (41904 + c).toNat).toNat 0 (4 * c) (by omega) (by omega) (fun k h => absurd h (by omega))
end

/-! touches -/
def gvo (name x : Int) : Prop := x ≠ -1 ∧ (name = -1 ∨ x = name)
def oE (m : Nat → Int) (e : Int) (i : Nat) : Int := if (i : Int) < m (42324 + e).toNat then nm (m (44724 + 6 * e + (i : Int)).toNat) 1000 else -1
def nE (m : Nat → Int) (e : Int) (i : Nat) : Int := if (i : Int) < m (42564 + e).toNat then nm (m (47604 + 6 * e + (i : Int)).toNat) 1000 else -1
def giE (m : Nat → Int) (e name : Int) : Prop := (∃ i : Nat, i < 6 ∧ gvo name (oE m e i)) ∨ ∃ i : Nat, i < 6 ∧ gvo name (nE m e i)
def gvC (m : Nat → Int) (c name : Int) : Prop := ∃ k : Nat, k < (m (41904 + c).toNat).toNat ∧ giE m (4 * c + (k : Int)) name
def hsF (m : Nat → Int) (c f : Int) : Prop := ∃ k : Nat, k < (m (41904 + c).toNat).toNat ∧ m (42084 + (4 * c + (k : Int))).toNat = f
def tcP (m : Nat → Int) (c kd a : Int) : Prop := (kd = 1 ∧ gvC m c a) ∨ (kd ≠ 1 ∧ hsF m c a) ∨ (kd = 2 ∧ gvC m c (-1))
def tch (m : Nat → Int) (c t : Int) : Prop := tcP m c (m (41484 + t).toNat) (m (41508 + t).toNat)
section
variable {sc : Nat × (Nat → Int)} {μ ν C : xM} {m : Nat → Int}
theorem K59_34 (h1 : m 1 ≤ 1152) {e name : Int} (e0 : 0 ≤ e) (e1 : e < 244) (n0 : 0 ≤ m (42324 + e).toNat) (n6 : m (42324 + e).toNat ≤ 6) (hE : yEl μ m 35 43284 44724 e (m (42324 + e).toNat)) : EV sc 59 [vR 34, vI (e * 6), vI (m (42324 + e).toNat), vI name, vR 2] (SK, μ) = some (some (vI (bI (∃ i : Nat, i < 6 ∧ gvo name (oE m e i)))), (SK, μ)) := by
  have l : ∀ (k j : Nat) (i : Int), i = j → j + k = (m (42324 + e).toNat).toNat → (∀ i : Nat, i < j → ¬ gvo name (oE m e i)) → AT sc 59 1 [vR 34, vI (e * 6), vI (m (42324 + e).toNat), vI name, vR 2, vI i, vN] [] (SK, μ) = some (some (vI (bI (∃ i : Nat, i < 6 ∧ gvo name (oE m e i)))), (SK, μ)) := by
    intro k
    induction k with
    | zero =>
      intro j i hi e2 ha
      rw [B59_34_2_1, bI_f (show ¬ ∃ i : Nat, i < 6 ∧ gvo name (oE m e i) from fun ⟨i, _, h⟩ => by
        by_cases h2 : i < j
        · exact ha i h2 h
        · unfold oE at h
          rw [if_neg (by omega)] at h
          exact h.1 rfl)]
      simp (disch := omega) only [B59_34_2_6, xcI_some, xcV_some, if_pos, if_neg, xg_in, wr_of, if_true, if_false, or_true, true_or]
    | succ k ih =>
      intro j i hi e2 ha
      obtain ⟨q1, q2, q3, q4, q5, q6⟩ := hE i (by omega) (by omega)
      have ix : e * 6 + i = 6 * e + i := by omega
      have ef : oE m e j = nm (m (44724 + 6 * e + i).toNat) 1000 := by
        unfold oE
        rw [if_pos (by omega), ← hi]
      have k9 : EV sc 9 [vR 2, vI (m (43284 + 6 * e + i).toNat)] (SK, μ) = some (some (vI (nm (m (44724 + 6 * e + i).toNat) 1000)), (SK, μ)) := by
        rw [K9 (by omega) (by omega) (by omega) (by omega), q4]
      rw [B59_34_2_1]
      by_cases ok : gvo name (oE m e j)
      · rw [bI_t (show ∃ i : Nat, i < 6 ∧ gvo name (oE m e i) from ⟨j, by omega, ok⟩)]
        rw [ef] at ok
        have o1 := ok.1
        by_cases o2 : name = -1
        · simp (disch := omega) only [G_34, gt_in, ix, q1, B59_34_2_2, k9, B59_34_2_3, o2, B59_34_2_4, xcI_some, xcV_some, if_pos, if_neg, xg_in, wr_of, if_true, if_false, or_true, true_or]
        · have o3 : nm (m (44724 + 6 * e + i).toNat) 1000 = name := ok.2.elim (fun x => absurd x o2) id
          simp (disch := omega) only [G_34, gt_in, ix, q1, B59_34_2_2, k9, B59_34_2_3, o3, B59_34_2_4, xcI_some, xcV_some, if_pos, if_neg, xg_in, wr_of, if_true, if_false, or_true, true_or]
      · have ih1 := ih (j + 1) (i + 1) (by omega) (by omega) (fun i' h' => by
          by_cases e3 : i' = j
          · rw [e3]; exact ok
          · exact ha i' (by omega))
        rw [ef] at ok
        by_cases o1 : nm (m (44724 + 6 * e + i).toNat) 1000 = -1
        · simp (disch := omega) only [G_34, gt_in, ix, q1, B59_34_2_2, k9, B59_34_2_3, o1, B59_34_2_5, ih1, xcI_some, xcV_some, if_pos, if_neg, xg_in, wr_of, if_true, if_false, or_true, true_or]
        · have o2 : name ≠ -1 := fun x => ok ⟨o1, Or.inl x⟩
          have o3 : nm (m (44724 + 6 * e + i).toNat) 1000 ≠ name := fun x => ok ⟨o1, Or.inr x⟩
          simp (disch := omega) only [G_34, gt_in, ix, q1, B59_34_2_2, k9, B59_34_2_3, B59_34_2_5, ih1, xcI_some, xcV_some, if_pos, if_neg, xg_in, wr_of, if_true, if_false, or_true, true_or]
  rw [V59_34_2, B59_34_2_0, l (m (42324 + e).toNat).toNat 0 0 rfl (by omega) (fun i h => absurd h (by omega))]
theorem K59_36 (h1 : m 1 ≤ 1152) {e name : Int} (e0 : 0 ≤ e) (e1 : e < 244) (n0 : 0 ≤ m (42564 + e).toNat) (n6 : m (42564 + e).toNat ≤ 6) (hE : yEl μ m 37 46164 47604 e (m (42564 + e).toNat)) : EV sc 59 [vR 36, vI (e * 6), vI (m (42564 + e).toNat), vI name, vR 2] (SK, μ) = some (some (vI (bI (∃ i : Nat, i < 6 ∧ gvo name (nE m e i)))), (SK, μ)) := by
  have l : ∀ (k j : Nat) (i : Int), i = j → j + k = (m (42564 + e).toNat).toNat → (∀ i : Nat, i < j → ¬ gvo name (nE m e i)) → AT sc 59 1 [vR 36, vI (e * 6), vI (m (42564 + e).toNat), vI name, vR 2, vI i, vN] [] (SK, μ) = some (some (vI (bI (∃ i : Nat, i < 6 ∧ gvo name (nE m e i)))), (SK, μ)) := by
    intro k
    induction k with
    | zero =>
      intro j i hi e2 ha
      rw [B59_36_2_1, bI_f (show ¬ ∃ i : Nat, i < 6 ∧ gvo name (nE m e i) from fun ⟨i, _, h⟩ => by
        by_cases h2 : i < j
        · exact ha i h2 h
        · unfold nE at h
          rw [if_neg (by omega)] at h
          exact h.1 rfl)]
      simp (disch := omega) only [B59_36_2_6, xcI_some, xcV_some, if_pos, if_neg, xg_in, wr_of, if_true, if_false, or_true, true_or]
    | succ k ih =>
      intro j i hi e2 ha
      obtain ⟨q1, q2, q3, q4, q5, q6⟩ := hE i (by omega) (by omega)
      have ix : e * 6 + i = 6 * e + i := by omega
      have ef : nE m e j = nm (m (47604 + 6 * e + i).toNat) 1000 := by
        unfold nE
        rw [if_pos (by omega), ← hi]
      have k9 : EV sc 9 [vR 2, vI (m (46164 + 6 * e + i).toNat)] (SK, μ) = some (some (vI (nm (m (47604 + 6 * e + i).toNat) 1000)), (SK, μ)) := by
        rw [K9 (by omega) (by omega) (by omega) (by omega), q4]
      rw [B59_36_2_1]
      by_cases ok : gvo name (nE m e j)
      · rw [bI_t (show ∃ i : Nat, i < 6 ∧ gvo name (nE m e i) from ⟨j, by omega, ok⟩)]
        rw [ef] at ok
        have o1 := ok.1
        by_cases o2 : name = -1
        · simp (disch := omega) only [G_36, gt_in, ix, q1, B59_36_2_2, k9, B59_36_2_3, o2, B59_36_2_4, xcI_some, xcV_some, if_pos, if_neg, xg_in, wr_of, if_true, if_false, or_true, true_or]
        · have o3 : nm (m (47604 + 6 * e + i).toNat) 1000 = name := ok.2.elim (fun x => absurd x o2) id
          simp (disch := omega) only [G_36, gt_in, ix, q1, B59_36_2_2, k9, B59_36_2_3, o3, B59_36_2_4, xcI_some, xcV_some, if_pos, if_neg, xg_in, wr_of, if_true, if_false, or_true, true_or]
      · have ih1 := ih (j + 1) (i + 1) (by omega) (by omega) (fun i' h' => by
          by_cases e3 : i' = j
          · rw [e3]; exact ok
          · exact ha i' (by omega))
        rw [ef] at ok
        by_cases o1 : nm (m (47604 + 6 * e + i).toNat) 1000 = -1
        · simp (disch := omega) only [G_36, gt_in, ix, q1, B59_36_2_2, k9, B59_36_2_3, o1, B59_36_2_5, ih1, xcI_some, xcV_some, if_pos, if_neg, xg_in, wr_of, if_true, if_false, or_true, true_or]
        · have o2 : name ≠ -1 := fun x => ok ⟨o1, Or.inl x⟩
          have o3 : nm (m (47604 + 6 * e + i).toNat) 1000 ≠ name := fun x => ok ⟨o1, Or.inr x⟩
          simp (disch := omega) only [G_36, gt_in, ix, q1, B59_36_2_2, k9, B59_36_2_3, B59_36_2_5, ih1, xcI_some, xcV_some, if_pos, if_neg, xg_in, wr_of, if_true, if_false, or_true, true_or]
  rw [V59_36_2, B59_36_2_0, l (m (42564 + e).toNat).toNat 0 0 rfl (by omega) (fun i h => absurd h (by omega))]
theorem K58 (h1 : m 1 ≤ 1152) {e name : Int} (e0 : 0 ≤ e) (e1 : e < 244) (hE : yEe μ m e) : EV sc 58 [vR 23, vI e, vI name, vR 2] (SK, μ) = some (some (vI (bI (giE m e name))), (SK, μ)) := by
  obtain ⟨⟨g1, g2, g3, g4, g5⟩, ⟨f1, f2, f3, f4, f5, f6, f7, f8, f9, f10⟩, p1, p2⟩ := hE
  have ka := K59_34 (sc := sc) (name := name) h1 e0 e1 f3 f4 p1
  have kb := K59_36 (sc := sc) (name := name) h1 e0 e1 f5 f6 p2
  unfold giE
  by_cases o1 : ∃ i : Nat, i < 6 ∧ gvo name (oE m e i)
  · rw [bI_t o1] at ka
    rw [bI_t (Or.inl o1)]
    simp (disch := omega) only [V58, B58_0, B58_1, B58_2, B58_3, B58_4, B58_5, B58_6, B58_7, G_7, G_9, G_11, G_13, G_15, G_17, G_19, G_21, G_24, G_26, G_28, G_30, G_32, G_34, G_36, G_39, G_42, G_44, G_46, G_48, G_50, G_52, G_55, G_57, G_60, G_62, G_64, G_66, G_68, gt_in, g4, ka, xcI_some, xcV_some, if_pos, if_neg, xg_in, wr_of, if_true, if_false, or_true, true_or]
  · rw [bI_f o1] at ka
    by_cases o2 : ∃ i : Nat, i < 6 ∧ gvo name (nE m e i)
    · rw [bI_t o2] at kb
      rw [bI_t (Or.inr o2)]
      simp (disch := omega) only [V58, B58_0, B58_1, B58_2, B58_3, B58_4, B58_5, B58_6, B58_7, G_7, G_9, G_11, G_13, G_15, G_17, G_19, G_21, G_24, G_26, G_28, G_30, G_32, G_34, G_36, G_39, G_42, G_44, G_46, G_48, G_50, G_52, G_55, G_57, G_60, G_62, G_64, G_66, G_68, gt_in, g4, g5, ka, kb, xcI_some, xcV_some, if_pos, if_neg, xg_in, wr_of, if_true, if_false, or_true, true_or]
    · rw [bI_f o2] at kb
      rw [bI_f (fun x => x.elim o1 o2)]
      simp (disch := omega) only [V58, B58_0, B58_1, B58_2, B58_3, B58_4, B58_5, B58_6, B58_7, G_7, G_9, G_11, G_13, G_15, G_17, G_19, G_21, G_24, G_26, G_28, G_30, G_32, G_34, G_36, G_39, G_42, G_44, G_46, G_48, G_50, G_52, G_55, G_57, G_60, G_62, G_64, G_66, G_68, gt_in, g4, g5, ka, kb, xcI_some, xcV_some, if_pos, if_neg, xg_in, wr_of, if_true, if_false, or_true, true_or]
theorem K48 (hA : yA μ m) (hE : yE μ m) (h1 : m 1 ≤ 1152) {c kd a : Int} (c0 : 0 ≤ c) (c1 : c < m 7) : EV sc 48 [vR 6, vI c, vI kd, vI a, vR 2] (SK, μ) = some (some (vI (bI (tcP m c kd a))), (SK, μ)) := by
  have h7 := hA.2.1
  have hn := (hA.2.2.2 c c0 c1).2.1
  have q := q33 (sc := sc) hA c0 c1
  have l : ∀ (k j : Nat) (i : Int), i = j → j + k = (m (41904 + c).toNat).toNat → (∀ k : Nat, k < j → ¬ ((kd = 1 ∧ giE m (4 * c + (k : Int)) a) ∨ (kd ≠ 1 ∧ m (42084 + (4 * c + (k : Int))).toNat = a) ∨ (kd = 2 ∧ giE m (4 * c + (k : Int)) (-1)))) → AT sc 48 2 [vR 6, vI c, vI kd, vI a, vR 2, vI (m (41904 + c).toNat), vI i, vN] [] (SK, μ) = some (some (vI (bI (tcP m c kd a))), (SK, μ)) := by
    intro k
    induction k with
    | zero =>
      intro j i hi e ha
      rw [B48_2, bI_f (show ¬ tcP m c kd a from fun x => by
        rcases x with ⟨x1, k, k1, x2⟩ | ⟨x1, k, k1, x2⟩ | ⟨x1, k, k1, x2⟩
        · exact ha k (by omega) (Or.inl ⟨x1, x2⟩)
        · exact ha k (by omega) (Or.inr (Or.inl ⟨x1, x2⟩))
        · exact ha k (by omega) (Or.inr (Or.inr ⟨x1, x2⟩)))]
      simp (disch := omega) only [B48_9, xcI_some, xcV_some, if_pos, if_neg, xg_in, wr_of, if_true, if_false, or_true, true_or]
    | succ k ih =>
      intro j i hi e ha
      have he := (hE c c0 c1).1 i (by omega) (by omega)
      have ix : c * 4 + i = 4 * c + i := by omega
      have k58 := fun name => K58 (sc := sc) (name := name) h1 (show 0 ≤ 4 * c + i by omega) (by omega) he
      have g25 := he.1.1
      by_cases ok : (kd = 1 ∧ giE m (4 * c + (j : Int)) a) ∨ (kd ≠ 1 ∧ m (42084 + (4 * c + (j : Int))).toNat = a) ∨ (kd = 2 ∧ giE m (4 * c + (j : Int)) (-1))
      · have yes : tcP m c kd a := by
          rcases ok with ⟨x1, x2⟩ | ⟨x1, x2⟩ | ⟨x1, x2⟩
          · exact Or.inl ⟨x1, j, by omega, x2⟩
          · exact Or.inr (Or.inl ⟨x1, j, by omega, x2⟩)
          · exact Or.inr (Or.inr ⟨x1, j, by omega, x2⟩)
        rw [bI_t yes, B48_2]
        rw [← hi] at ok
        by_cases k1 : kd = 1
        · have ok1 : giE m (4 * c + i) a := by
            rcases ok with ⟨x1, x2⟩ | ⟨x1, x2⟩ | ⟨x1, x2⟩
            · exact x2
            · exact absurd k1 x1
            · omega
          have kk := k58 a
          rw [bI_t ok1] at kk
          simp (disch := omega) only [ix, B48_4, kk, B48_5, xcI_some, xcV_some, if_pos, if_neg, xg_in, wr_of, if_true, if_false, or_true, true_or]
        · by_cases e2 : m (42084 + (4 * c + i)).toNat = a
          · simp (disch := omega) only [ix, V52, B52_0, B52_1, G_24, gt_in, g25, e2, B48_3, xcI_some, xcV_some, if_pos, if_neg, xg_in, wr_of, if_true, if_false, or_true, true_or]
          · have ok1 : kd = 2 ∧ giE m (4 * c + i) (-1) := by
              rcases ok with ⟨x1, x2⟩ | ⟨x1, x2⟩ | x1
              · exact absurd x1 k1
              · exact absurd x2 e2
              · exact x1
            have kk := k58 (-1)
            rw [bI_t ok1.2] at kk
            have k2 := ok1.1
            simp (disch := omega) only [ix, V52, B52_0, B52_1, G_24, gt_in, g25, B48_3, B48_4, B48_6, kk, B48_7, xcI_some, xcV_some, if_pos, if_neg, xg_in, wr_of, if_true, if_false, or_true, true_or]
      · have ih1 := ih (j + 1) (i + 1) (by omega) (by omega) (fun i' h' => by
          by_cases e3 : i' = j
          · rw [e3]; exact ok
          · exact ha i' (by omega))
        rw [B48_2]
        rw [← hi] at ok
        by_cases k1 : kd = 1
        · have ok1 : ¬ giE m (4 * c + i) a := fun x => ok (Or.inl ⟨k1, x⟩)
          have kk := k58 a
          rw [bI_f ok1] at kk
          simp (disch := omega) only [ix, B48_4, kk, B48_5, B48_6, B48_8, ih1, xcI_some, xcV_some, if_pos, if_neg, xg_in, wr_of, if_true, if_false, or_true, true_or]
        · have e2 : m (42084 + (4 * c + i)).toNat ≠ a := fun x => ok (Or.inr (Or.inl ⟨k1, x⟩))
          by_cases k2 : kd = 2
          · have ok1 : ¬ giE m (4 * c + i) (-1) := fun x => ok (Or.inr (Or.inr ⟨k2, x⟩))
            have kk := k58 (-1)
            rw [bI_f ok1] at kk
            simp (disch := omega) only [ix, V52, B52_0, B52_1, G_24, gt_in, g25, B48_3, B48_4, B48_6, kk, B48_7, B48_8, ih1, xcI_some, xcV_some, if_pos, if_neg, xg_in, wr_of, if_true, if_false, or_true, true_or]
          · simp (disch := omega) only [ix, V52, B52_0, B52_1, G_24, gt_in, g25, B48_3, B48_4, B48_6, B48_8, ih1, xcI_some, xcV_some, if_pos, if_neg, xg_in, wr_of, if_true, if_false, or_true, true_or]
  have l0 := l (m (41904 + c).toNat).toNat 0 0 rfl (by omega) (fun i h => absurd h (by omega))
  simp (disch := omega) only [V48, B48_0, q, B48_1, l0, xcI_some, xcV_some, if_pos, if_neg, xg_in, wr_of, if_true, if_false, or_true, true_or]
theorem m184 (hν : ν 140 = m) {c f : Int} (c0 : 0 ≤ c) (c1 : c < 60) (n0 : 0 ≤ m (41904 + c).toNat) (n4 : m (41904 + c).toNat ≤ 4) : EV sc 184 [vR 139, vI c, vI f] (SK, ν) = some (some (vI (bI (hsF m c f))), (SK, ν)) := by
  have l : ∀ (k j : Nat) (x : Int) (Q : Prop), x = 4 * c + j → j + k = (m (41904 + c).toNat).toNat → (Q ↔ ∃ k : Nat, k < j ∧ m (42084 + (4 * c + (k : Int))).toNat = f) → AT sc 184 1 [vR 139, vI c, vI f, vI (bI Q), vI x] [] (SK, ν) = some (some (vI (bI (hsF m c f))), (SK, ν)) := by
    intro k
    induction k with
    | zero =>
      intro j x Q hx e hQ
      rw [B184_1, bI_iff (show hsF m c f ↔ Q by rw [hQ]; unfold hsF; rw [show j = (m (41904 + c).toNat).toNat by omega])]
      simp (disch := omega) only [hν, B184_5, xcI_some, xcV_some, if_pos, if_neg, xg_in, wr_of, if_true, if_false, or_true, true_or]
      exact if_pos (bI_if rfl)
    | succ k ih =>
      intro j x Q hx e hQ
      rw [B184_1]
      by_cases q : Q
      · have ih1 := ih (j + 1) (x + 1) True (by omega) (by omega) ⟨fun _ => by obtain ⟨k, k1, k2⟩ := hQ.mp q; exact ⟨k, by omega, k2⟩, fun _ => trivial⟩
        rw [bI_t trivial] at ih1
        rw [bI_t q]
        simp (disch := omega) only [hν, B184_2, B184_4, ih1, xcI_some, xcV_some, if_pos, if_neg, xg_in, wr_of, if_true, if_false, or_true, true_or]
      · by_cases e2 : m (42084 + x).toNat = f
        · have ih1 := ih (j + 1) (x + 1) True (by omega) (by omega) ⟨fun _ => ⟨j, by omega, by rw [← hx]; exact e2⟩, fun _ => trivial⟩
          rw [bI_t trivial] at ih1
          rw [bI_f q]
          simp (disch := omega) only [hν, e2, B184_2, B184_4, ih1, xcI_some, xcV_some, if_pos, if_neg, xg_in, wr_of, if_true, if_false, or_true, true_or]
        · have ih1 := ih (j + 1) (x + 1) Q (by omega) (by omega) ⟨fun y => absurd y q, fun ⟨k, k1, k2⟩ => by
            by_cases e3 : k = j
            · rw [e3, ← hx] at k2; exact absurd k2 e2
            · exact hQ.mpr ⟨k, by omega, k2⟩⟩
          rw [bI_f q] at ih1 ⊢
          clear hQ
          simp (disch := omega) only [hν, e2, B184_3, B184_4, ih1, xcI_some, xcV_some, if_pos, if_neg, xg_in, wr_of, if_true, if_false, or_true, true_or]
  have l0 := l (m (41904 + c).toNat).toNat 0 (4 * c) False (by omega) (by omega) ⟨False.elim, fun ⟨k, k1, _⟩ => absurd k1 (by omega)⟩
  rw [bI_f id] at l0
  simp (disch := omega) only [V184, B184_0, l0, xcI_some, xcV_some, if_pos, if_neg, xg_in, wr_of, if_true, if_false, or_true, true_or]
theorem m195_8 {c name x3 x4 x5 x6 s0 : Int} (h3 : x3 = 0 ∨ x3 = 1) : AT sc 195 8 [vR 139, vI c, vI name, vI x3, vI x4, vI x5, vI x6, vN] [vI s0] (SK, ν) = AT sc 195 12 [vR 139, vI c, vI name, vN, vI x4, vI x5, vN, vN] [vI (bI (x3 = 1 ∨ gvo name x6 ∨ gvo name s0))] (SK, ν) := by
  rw [B195_8]
  rcases h3 with h3 | h3 <;> subst h3
  · by_cases o1 : gvo name x6
    · have o2 := o1.1
      rw [bI_t (Or.inr (Or.inl o1))]
      by_cases o3 : name = -1
      · simp (disch := omega) only [o3, B195_10, xcI_some, xcV_some, if_pos, if_neg, xg_in, wr_of, if_true, if_false, or_true, true_or]
      · have o4 : x6 = name := o1.2.elim (fun x => absurd x o3) id
        simp (disch := omega) only [o4, B195_10, xcI_some, xcV_some, if_pos, if_neg, xg_in, wr_of, if_true, if_false, or_true, true_or]
    · have t9 : AT sc 195 9 [vR 139, vI c, vI name, vN, vI x4, vI x5, vN, vI s0] [] (SK, ν) = AT sc 195 12 [vR 139, vI c, vI name, vN, vI x4, vI x5, vN, vN] [vI (bI ((0 : Int) = 1 ∨ gvo name x6 ∨ gvo name s0))] (SK, ν) := by
        rw [B195_9]
        by_cases p1 : gvo name s0
        · have p2 := p1.1
          rw [bI_t (Or.inr (Or.inr p1))]
          by_cases p3 : name = -1
          · simp (disch := omega) only [p3, B195_10, xcI_some, xcV_some, if_pos, if_neg, xg_in, wr_of, if_true, if_false, or_true, true_or]
          · have p4 : s0 = name := p1.2.elim (fun x => absurd x p3) id
            simp (disch := omega) only [p4, B195_10, xcI_some, xcV_some, if_pos, if_neg, xg_in, wr_of, if_true, if_false, or_true, true_or]
        · rw [bI_f (show ¬ ((0 : Int) = 1 ∨ gvo name x6 ∨ gvo name s0) from fun x => x.elim (fun y => absurd y (by omega)) (fun y => y.elim o1 p1))]
          by_cases p2 : s0 = -1
          · simp (disch := omega) only [p2, B195_11, xcI_some, xcV_some, if_pos, if_neg, xg_in, wr_of, if_true, if_false, or_true, true_or]
          · have p3 : name ≠ -1 := fun x => p1 ⟨p2, Or.inl x⟩
            have p4 : s0 ≠ name := fun x => p1 ⟨p2, Or.inr x⟩
            simp (disch := omega) only [B195_11, xcI_some, xcV_some, if_pos, if_neg, xg_in, wr_of, if_true, if_false, or_true, true_or]
      by_cases o2 : x6 = -1
      · simp (disch := omega) only [o2, xcI_some, xcV_some, if_pos, if_neg, xg_in, wr_of, if_true, if_false, or_true, true_or]
        rw [o2] at t9
        exact t9
      · have o3 : name ≠ -1 := fun x => o1 ⟨o2, Or.inl x⟩
        have o4 : x6 ≠ name := fun x => o1 ⟨o2, Or.inr x⟩
        simp (disch := omega) only [xcI_some, xcV_some, if_pos, if_neg, xg_in, wr_of, if_true, if_false, or_true, true_or]
        exact t9
  · rw [bI_t (Or.inl rfl)]
    simp (disch := omega) only [B195_10, xcI_some, xcV_some, if_pos, if_neg, xg_in, wr_of, if_true, if_false, or_true, true_or]
theorem m195_in (hν : ν 140 = m) {c name e : Int} (e0 : 0 ≤ e) (e1 : e < 244) (hE : yEe C m e) {Q : Prop} : AT sc 195 2 [vR 139, vI c, vI name, vI (bI Q), vI e, vI 0, vN, vN] [] (SK, ν) = AT sc 195 13 [vR 139, vI c, vI name, vI (bI (Q ∨ giE m e name)), vI e, vN, vN, vN] [] (SK, ν) := by
  obtain ⟨⟨g1, g2, g3, g4, g5⟩, ⟨f1, f2, f3, f4, f5, f6, f7, f8, f9, f10⟩, p1, p2⟩ := hE
  have l : ∀ (k j : Nat) (i : Int) (R : Prop), i = j → j + k = 6 → (R ↔ (Q ∨ ∃ i : Nat, i < j ∧ (gvo name (oE m e i) ∨ gvo name (nE m e i)))) → AT sc 195 2 [vR 139, vI c, vI name, vI (bI R), vI e, vI i, vN, vN] [] (SK, ν) = AT sc 195 13 [vR 139, vI c, vI name, vI (bI (Q ∨ giE m e name)), vI e, vN, vN, vN] [] (SK, ν) := by
    intro k
    induction k with
    | zero =>
      intro j i R hi h6 hR
      rw [B195_2, bI_iff (show (Q ∨ giE m e name) ↔ R by
        rw [hR, show j = 6 by omega]
        unfold giE
        refine or_congr Iff.rfl ⟨fun x => ?_, fun ⟨i, i6, x⟩ => ?_⟩
        · rcases x with ⟨i, i6, x⟩ | ⟨i, i6, x⟩
          · exact ⟨i, i6, Or.inl x⟩
          · exact ⟨i, i6, Or.inr x⟩
        · exact x.elim (fun y => Or.inl ⟨i, i6, y⟩) (fun y => Or.inr ⟨i, i6, y⟩))]
      simp (disch := omega) only [xcI_some, xcV_some, if_pos, if_neg, xg_in, wr_of, if_true, if_false, or_true, true_or]
    | succ k ih =>
      intro j i R hi h6 hR
      have h01 : bI R = 0 ∨ bI R = 1 := bI_if rfl
      have ih1 := ih (j + 1) (i + 1) (bI R = 1 ∨ gvo name (oE m e j) ∨ gvo name (nE m e j)) (by omega) (by omega) (by
        have hb : bI R = 1 ↔ R := by
          rcases bI_01 (P := R) with ⟨x, y⟩ | ⟨x, y⟩
          · exact ⟨fun _ => x, fun _ => y⟩
          · exact ⟨fun z => by omega, fun z => absurd z x⟩
        rw [hb, hR]
        constructor
        · rintro ((x | ⟨i, i1, x⟩) | x)
          · exact Or.inl x
          · exact Or.inr ⟨i, by omega, x⟩
          · exact Or.inr ⟨j, by omega, x⟩
        · rintro (x | ⟨i, i1, x⟩)
          · exact Or.inl (Or.inl x)
          · by_cases e3 : i = j
            · rw [e3] at x; exact Or.inr x
            · exact Or.inl (Or.inr ⟨i, by omega, x⟩))
      have ho : AT sc 195 2 [vR 139, vI c, vI name, vI (bI R), vI e, vI i, vN, vN] [] (SK, ν) = AT sc 195 5 [vR 139, vI c, vI name, vI (bI R), vI e, vI i, vN, vN] [vI (oE m e j)] (SK, ν) := by
        rw [B195_2]
        unfold oE
        by_cases hj : (j : Int) < m (42324 + e).toNat
        · have q := p1 i (by omega) (by omega)
          rw [if_pos hj, ← hi]
          simp (disch := omega) only [hν, m176, B195_3, xcI_some, xcV_some, if_pos, if_neg, xg_in, wr_of, if_true, if_false, or_true, true_or]
        · rw [if_neg hj]
          simp (disch := omega) only [hν, B195_4, xcI_some, xcV_some, if_pos, if_neg, xg_in, wr_of, if_true, if_false, or_true, true_or]
      have hn : AT sc 195 5 [vR 139, vI c, vI name, vI (bI R), vI e, vI i, vN, vN] [vI (oE m e j)] (SK, ν) = AT sc 195 8 [vR 139, vI c, vI name, vI (bI R), vI e, vI i, vI (oE m e j), vN] [vI (nE m e j)] (SK, ν) := by
        rw [B195_5]
        unfold nE
        by_cases hj : (j : Int) < m (42564 + e).toNat
        · have q := p2 i (by omega) (by omega)
          rw [if_pos hj, ← hi]
          simp (disch := omega) only [hν, m176, B195_6, xcI_some, xcV_some, if_pos, if_neg, xg_in, wr_of, if_true, if_false, or_true, true_or]
        · rw [if_neg hj]
          simp (disch := omega) only [hν, B195_7, xcI_some, xcV_some, if_pos, if_neg, xg_in, wr_of, if_true, if_false, or_true, true_or]
      rw [ho, hn, m195_8 h01, B195_12, wr_of (by omega) (by omega), ih1]
  exact l 6 0 0 Q rfl rfl ⟨Or.inl, fun x => x.elim id (fun ⟨i, h, _⟩ => absurd h (by omega))⟩
theorem m195 (hν : ν 140 = m) (hA : yA C m) (hE : yE C m) {c name : Int} (c0 : 0 ≤ c) (c1 : c < m 7) : EV sc 195 [vR 139, vI c, vI name] (SK, ν) = some (some (vI (bI (gvC m c name))), (SK, ν)) := by
  have h7 := hA.2.1
  have hn := (hA.2.2.2 c c0 c1).2.1
  have l : ∀ (k j : Nat) (x : Int) (Q : Prop), x = 4 * c + j → j + k = (m (41904 + c).toNat).toNat → (Q ↔ ∃ k : Nat, k < j ∧ giE m (4 * c + (k : Int)) name) → AT sc 195 1 [vR 139, vI c, vI name, vI (bI Q), vI x, vN, vN, vN] [] (SK, ν) = some (some (vI (bI (gvC m c name))), (SK, ν)) := by
    intro k
    induction k with
    | zero =>
      intro j x Q hx e hQ
      rw [B195_1, bI_iff (show gvC m c name ↔ Q by rw [hQ]; unfold gvC; rw [show j = (m (41904 + c).toNat).toNat by omega])]
      simp (disch := omega) only [hν, B195_14, xcI_some, xcV_some, if_pos, if_neg, xg_in, wr_of, if_true, if_false, or_true, true_or]
      exact if_pos (bI_if rfl)
    | succ k ih =>
      intro j x Q hx e hQ
      have he := (hE c c0 c1).1 (j : Int) (by omega) (by omega)
      rw [← hx] at he
      have ih1 := ih (j + 1) (x + 1) (Q ∨ giE m x name) (by omega) (by omega) ⟨fun y => y.elim (fun z => by obtain ⟨k, k1, k2⟩ := hQ.mp z; exact ⟨k, by omega, k2⟩) (fun z => ⟨j, by omega, by rw [← hx]; exact z⟩), fun ⟨k, k1, k2⟩ => by
        by_cases e3 : k = j
        · rw [e3, ← hx] at k2; exact Or.inr k2
        · exact Or.inl (hQ.mpr ⟨k, by omega, k2⟩)⟩
      have hin := m195_in (sc := sc) (c := c) (name := name) (Q := Q) hν (show 0 ≤ x by omega) (by omega) he
      rw [B195_1]
      simp (disch := omega) only [hν, hin, B195_13, ih1, xcI_some, xcV_some, if_pos, if_neg, xg_in, wr_of, if_true, if_false, or_true, true_or]
  have l0 := l (m (41904 + c).toNat).toNat 0 (4 * c) False (by omega) (by omega) ⟨False.elim, fun ⟨k, k1, _⟩ => absurd k1 (by omega)⟩
  rw [bI_f id] at l0
  simp (disch := omega) only [V195, B195_0, l0, xcI_some, xcV_some, if_pos, if_neg, xg_in, wr_of, if_true, if_false, or_true, true_or]
theorem m196 (hν : ν 140 = m) (hT : yT C m) (hA : yA C m) (hE : yE C m) {c t : Int} (c0 : 0 ≤ c) (c1 : c < m 7) (t0 : 0 ≤ t) (t1 : t < m 6) : EV sc 196 [vR 139, vI c, vI t] (SK, ν) = some (some (vI (bI (tch m c t))), (SK, ν)) := by
  have h6 := hT.1
  have h7 := hA.2.1
  have hn := (hA.2.2.2 c c0 c1).2.1
  unfold tch
  have k195 := fun name => m195 (sc := sc) (name := name) hν hA hE c0 c1
  have k184 := fun f => m184 (sc := sc) (f := f) hν c0 (by omega) hn.1 hn.2
  simp (disch := omega) only [V196, B196_0, hν, xcI_some, xcV_some, if_pos, if_neg, xg_in, wr_of, if_true, if_false, or_true, true_or]
  generalize m (41484 + t).toNat = kd
  generalize m (41508 + t).toNat = a
  have ka := k195 a
  have kb := k195 (-1)
  have kc := k184 a
  by_cases k1 : kd = 1
  · by_cases o : gvC m c a
    · rw [bI_t o] at ka
      rw [bI_t (show tcP m c kd a from Or.inl ⟨k1, o⟩)]
      simp (disch := omega) only [ka, B196_1, B196_7, xcI_some, xcV_some, if_pos, if_neg, xg_in, wr_of, if_true, if_false, or_true, true_or]
    · rw [bI_f o] at ka
      rw [bI_f (show ¬ tcP m c kd a from fun x => by
        rcases x with x | x | x
        · exact o x.2
        · exact x.1 k1
        · omega)]
      simp (disch := omega) only [ka, B196_1, B196_7, xcI_some, xcV_some, if_pos, if_neg, xg_in, wr_of, if_true, if_false, or_true, true_or]
  · by_cases o : hsF m c a
    · rw [bI_t o] at kc
      rw [bI_t (show tcP m c kd a from Or.inr (Or.inl ⟨k1, o⟩))]
      simp (disch := omega) only [kc, B196_2, B196_3, B196_5, B196_7, xcI_some, xcV_some, if_pos, if_neg, xg_in, wr_of, if_true, if_false, or_true, true_or]
    · rw [bI_f o] at kc
      by_cases k2 : kd = 2
      · by_cases o2 : gvC m c (-1)
        · rw [bI_t o2] at kb
          rw [bI_t (show tcP m c kd a from Or.inr (Or.inr ⟨k2, o2⟩))]
          simp (disch := omega) only [kc, kb, B196_2, B196_3, B196_4, B196_5, B196_7, xcI_some, xcV_some, if_pos, if_neg, xg_in, wr_of, if_true, if_false, or_true, true_or]
        · rw [bI_f o2] at kb
          rw [bI_f (show ¬ tcP m c kd a from fun x => by
            rcases x with x | x | x
            · exact k1 x.1
            · exact o x.2
            · exact o2 x.2)]
          simp (disch := omega) only [kc, kb, B196_2, B196_3, B196_4, B196_6, B196_7, xcI_some, xcV_some, if_pos, if_neg, xg_in, wr_of, if_true, if_false, or_true, true_or]
      · rw [bI_f (show ¬ tcP m c kd a from fun x => by
          rcases x with x | x | x
          · exact k1 x.1
          · exact o x.2
          · exact k2 x.1)]
        simp (disch := omega) only [kc, B196_2, B196_3, B196_6, B196_7, xcI_some, xcV_some, if_pos, if_neg, xg_in, wr_of, if_true, if_false, or_true, true_or]
theorem op_touches (h : yAll μ) {c t : Int} : yOp sc 143 197 [vI c, vI t] μ := by
  obtain ⟨⟨a1, a2, a3, a4, a5, a6, a7, a8, a9, a10, a11⟩, hk⟩ := id h
  have n6 := a1.1
  have n3 := a1.2.1
  have n5 := a2.2
  have n10 : 0 ≤ μ 140 10 ∧ μ 140 10 ≤ 600 := ⟨a3.1, a3.2.1⟩
  have n7 : 0 ≤ μ 140 7 ∧ μ 140 7 ≤ 60 := ⟨a4.1, a4.2.1⟩
  have n0 : 0 ≤ μ 140 0 ∧ μ 140 0 ≤ 60 ∧ μ 2 3 = μ 140 0 := a6.1
  have n1 : 0 ≤ μ 140 1 ∧ μ 140 1 ≤ 1152 ∧ μ 2 4 = μ 140 1 := a6.2.1
  have n8 : 0 ≤ μ 140 8 ∧ μ 140 8 ≤ 60 := ⟨a7.1, a7.2.1⟩
  have n9 := a8.1
  have c7 := a4.2.2.1
  have c8 := a7.2.2.1
  have c10 := a3.2.2.1
  by_cases hc : 0 ≤ c ∧ c < μ 140 7
  · by_cases ht : 0 ≤ t ∧ t < μ 140 6
    · have k := K48 (sc := sc) (kd := μ 140 (41484 + t).toNat) (a := μ 140 (41508 + t).toNat) a4 a5 n1.2.1 hc.1 hc.2
      have g := a1.2.2.2 t ht.1 ht.2
      refine .same h (bI (tch (μ 140) c t)) ?_ fun ν hν => ?_
      · unfold tch
        simp (disch := omega) only [V143, B143_0, B143_1, B143_2, B143_3, B143_5, B143_6, B143_7, V119, B119_0, V121, B121_0, B121_1, V122, B122_0, B122_1, G_7, G_9, G_11, G_13, G_15, G_17, G_19, G_21, G_24, G_26, G_28, G_30, G_32, G_34, G_36, G_39, G_42, G_44, G_46, G_48, G_50, G_52, G_55, G_57, G_60, G_62, G_64, G_66, G_68, gt_in, g.1, g.2.1, cChange_t, isIn_t, n6.2.2, k, xcI_some, xcV_some, if_pos, if_neg, xg_in, wr_of, if_true, if_false, or_true, true_or]
        rcases bI_01 (P := tcP (μ 140) c (μ 140 (41484 + t).toNat) (μ 140 (41508 + t).toNat)) with g | g <;> rw [g.2] <;> simp (disch := omega) only [V160, B160_0, B160_1, B160_2, B143_8, B143_9, xcI_some, xcV_some, if_pos, if_neg, xg_in, wr_of, if_true, if_false, or_true, true_or]
      · have ν0 : up2 ν 139 3 0 140 = μ 140 := by rw [up2_k (by omega)]; exact hν
        have k2 := m196 (sc := sc) ν0 a1 a4 a5 hc.1 hc.2 ht.1 ht.2
        simp (disch := omega) only [V197, B197_0, B197_1, B197_2, B197_4, mTest_t' (congrFun hν 6), mChange_t' (congrFun hν 7), k2, xcI_some, xcV_some, if_pos, if_neg, xg_in, wr_of, if_true, if_false, or_true, true_or]
        rcases bI_01 (P := tch (μ 140) c t) with g | g <;> rw [g.2] <;> simp (disch := omega) only [B197_5, B197_6, B197_7, xcI_some, xcV_some, if_pos, if_neg, xg_in, wr_of, if_true, if_false, or_true, true_or]
    · refine .same h (-2) ?_ fun ν hν => ?_
      · simp (disch := omega) only [V143, B143_0, B143_1, B143_2, B143_3, B143_4, B143_5, B143_6, B143_7, B143_8, B143_9, V119, B119_0, cChange_t, isIn_f, n6.2.2, xcI_some, xcV_some, if_pos, if_neg, xg_in, wr_of, if_true, if_false, or_true, true_or]
      · simp (disch := omega) only [V197, B197_0, B197_1, B197_2, B197_3, B197_4, B197_5, B197_6, B197_7, mTest_f' (congrFun hν 6), mChange_t' (congrFun hν 7), xcI_some, xcV_some, if_pos, if_neg, xg_in, wr_of, if_true, if_false, or_true, true_or]
  · refine .same h (-2) ?_ fun ν hν => ?_
    · simp (disch := omega) only [V143, B143_0, B143_1, B143_2, B143_3, B143_4, B143_5, B143_6, B143_7, B143_8, B143_9, cChange_f, xcI_some, xcV_some, if_pos, if_neg, xg_in, wr_of, if_true, if_false, or_true, true_or]
    · simp (disch := omega) only [V197, B197_0, B197_1, B197_2, B197_3, B197_4, B197_5, B197_6, B197_7, mChange_f' (congrFun hν 7), xcI_some, xcV_some, if_pos, if_neg, xg_in, wr_of, if_true, if_false, or_true, true_or]
end

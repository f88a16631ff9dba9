/-! the line, as a batch sees it -/
/-- all but the rows of work -/
def yQ (C : xM) (m : Nat → Int) : Prop := yT C m ∧ yL C m ∧ yG C m ∧ yA C m ∧ yE C m ∧ yB C m ∧ yW C m ∧ yO m ∧ yM m ∧ yN m
theorem yQ_of {C : xM} {m : Nat → Int} (h : yK C m) : yQ C m := by
  obtain ⟨a1, a2, a3, a4, a5, a6, a7, a8, a9, a10, a11⟩ := h
  exact ⟨a1, a2, a3, a4, a5, a6, a7, a9, a10, a11⟩
theorem yQ_K {C : xM} {m : Nat → Int} (h : yQ C m) (a8 : yP C m) : yK C m := by
  obtain ⟨a1, a2, a3, a4, a5, a6, a7, a9, a10, a11⟩ := h
  exact ⟨a1, a2, a3, a4, a5, a6, a7, a8, a9, a10, a11⟩
theorem yQ_J {C : xM} {m : Nat → Int} (h : yQ C m) : yJ C m := ⟨h.2.2.2.1, h.2.2.2.2.1, h.2.2.2.2.2.1⟩
theorem yQ_fr {C C' : xM} {m m' : Nat → Int} (h : yQ C m) (e : ∀ i : Nat, (i ≠ 9 ∧ (i < 49104 ∨ 49296 ≤ i)) → m' i = m i) (eC : ∀ k i : Nat, (k ≠ 41 ∧ k ≠ 43 ∧ k ≠ 45 ∧ k ≠ 47 ∧ k ≠ 49 ∧ k ≠ 51 ∧ k ≠ 53) → C' k i = C k i) : yQ C' m' := by
  obtain ⟨a1, a2, a3, a4, a5, a6, a7, a9, a10, a11⟩ := h
  have n7 : 0 ≤ m 7 ∧ m 7 ≤ 60 := ⟨a4.1, a4.2.1⟩
  have n0 : 0 ≤ m 0 ∧ m 0 ≤ 60 ∧ C 2 3 = m 0 := a6.1
  have n1 : 0 ≤ m 1 ∧ m 1 ≤ 1152 ∧ C 2 4 = m 1 := a6.2.1
  exact ⟨yT_fr a1 (fun k i hk => eC k i (by unfold dT at hk; omega)) (fun i hi => e i (by unfold aT at hi; omega)), yL_fr a2 (eC 1 6 (by omega)) (e 5 (by omega)), yG_fr a3 (fun k i hk => eC k i (by omega)) (fun i hi => e i (by omega)), yA_fr a4 (fun k i hk => eC k i (by unfold dA at hk; omega)) (fun i hi => e i (by unfold aA at hi; omega)), yE_fr a5 a4 (fun k i hk => eC k i (by unfold dE at hk; omega)) (fun i _ _ => eC 5 i (by omega)) (by rw [e 1 (by omega)]; exact Int.le_refl _) (fun i hi => e i (by unfold aE at hi; omega)), yB_fr a6 ⟨eC 2 3 (by omega), eC 2 4 (by omega)⟩ ⟨e 0 (by omega), e 1 (by omega)⟩ (fun s _ _ k i hk => eC k i (by unfold dS at hk; omega)) (fun i _ _ => eC 5 i (by omega)) (fun s _ _ i hi => e i (by unfold aS at hi; omega)), yW_fr a7 ⟨a4.1, a4.2.1⟩ (fun k i hk => eC k i (by omega)) (fun i hi => e i (by omega)), yO_fr a9 a4 a6 a5 ⟨e 0 (by omega), e 7 (by omega)⟩ (fun s _ _ i hi => e i (by unfold aS at hi; omega)) (fun i hi => e i (by omega)), yM_fr a10 a4 (fun i hi => e i (by omega)), yN_fr a11 a4 (fun i hi => e i (by omega)) (fun u u0 u1 h => by rw [e (41724 + u).toNat (by omega)]; exact h) (fun u u0 u1 h => by rw [e (41724 + u).toNat (by omega)] at h; exact h)⟩
theorem yQ_W {C C' : xM} {m m' : Nat → Int} (h : yQ C m) (em : ∀ i : Nat, ¬ aW i → m' i = m i) (eC' : ∀ k i : Nat, ¬ dW k i → C' k i = C k i) : yQ C' m' := by
  obtain ⟨a1, a2, a3, a4, a5, a6, a7, a9, a10, a11⟩ := h
  have n7 : 0 ≤ m 7 ∧ m 7 ≤ 60 := ⟨a4.1, a4.2.1⟩
  have n0 : 0 ≤ m 0 ∧ m 0 ≤ 60 ∧ C 2 3 = m 0 := a6.1
  have n1 : 0 ≤ m 1 ∧ m 1 ≤ 1152 ∧ C 2 4 = m 1 := a6.2.1
  have e : ∀ i : Nat, ¬ ((500 ≤ i ∧ i < 524) ∨ (20044 ≤ i ∧ i < 21004) ∨ (40524 ≤ i ∧ i < 41484)) → m' i = m i := em
  have eC : ∀ k i : Nat, ¬ ((k = 4 ∧ 488 ≤ i) ∨ (k = 3 ∧ 11712 ≤ i)) → C' k i = C k i := eC'
  exact ⟨yT_fr a1 (fun k i hk => eC k i (by unfold dT at hk; omega)) (fun i hi => e i (by unfold aT at hi; omega)), yL_fr a2 (eC 1 6 (by omega)) (e 5 (by omega)), yG_fr a3 (fun k i hk => eC k i (by omega)) (fun i hi => e i (by omega)), yA_fr a4 (fun k i hk => eC k i (by unfold dA at hk; omega)) (fun i hi => e i (by unfold aA at hi; omega)), yE_fr a5 a4 (fun k i hk => eC k i (by unfold dE at hk; omega)) (fun i _ _ => eC 5 i (by omega)) (by rw [e 1 (by omega)]; exact Int.le_refl _) (fun i hi => e i (by unfold aE at hi; omega)), yB_fr a6 ⟨eC 2 3 (by omega), eC 2 4 (by omega)⟩ ⟨e 0 (by omega), e 1 (by omega)⟩ (fun s _ _ k i hk => eC k i (by unfold dS at hk; omega)) (fun i _ _ => eC 5 i (by omega)) (fun s _ _ i hi => e i (by unfold aS at hi; omega)), yW_fr a7 ⟨a4.1, a4.2.1⟩ (fun k i hk => eC k i (by omega)) (fun i hi => e i (by omega)), yO_fr a9 a4 a6 a5 ⟨e 0 (by omega), e 7 (by omega)⟩ (fun s _ _ i hi => e i (by unfold aS at hi; omega)) (fun i hi => e i (by omega)), yM_fr a10 a4 (fun i hi => e i (by omega)), yN_fr a11 a4 (fun i hi => e i (by omega)) (fun u u0 u1 h => by rw [e (41724 + u).toNat (by omega)]; exact h) (fun u u0 u1 h => by rw [e (41724 + u).toNat (by omega)] at h; exact h)⟩
theorem yP0 {C : xM} {m : Nat → Int} (h : m 9 = 0) (h6 : C 41 6 = 0) (h7 : C 41 7 = 0) : yP C m := by
  unfold yP
  rw [h]
  have e0 : allU m (0 : Int).toNat = [] := rfl
  rw [e0]
  refine ⟨⟨by omega, by omega, h7⟩, by rw [h6]; rfl, by simp, fun r r0 r1 => by omega, fun i u hu => by simp at hu, by simp [chU]⟩
def pil (C : xM) : xM := up2 (up2 C 41 7 0) 41 6 0
theorem yQ_pil {C : xM} {m : Nat → Int} (h : yQ C m) : yK (pil C) (up1 m 9 0) :=
  yQ_K (yQ_fr h (fun i hi => up1_ne hi.1) (fun k i hk => by unfold pil; rw [up2_ne (by omega), up2_ne (by omega)])) (yP0 up1_eq (by unfold pil; exact up2_eq) (by unfold pil; rw [up2_ne (by omega), up2_eq]))
theorem yQ_out {C : xM} {m : Nat → Int} (h : yQ C m) {c w p : Int} (c0 : 0 ≤ c) (c1 : c < m 7) (p0 : 0 ≤ p) (p1 : p < m 8) (hc : m (49044 + p).toNat = c) (w0 : w ≠ 0) (w1 : w ≠ 1) : yQ (outC C c w p (m 8)) (outM m c w p) := by
  have n8 : 0 ≤ m 8 ∧ m 8 ≤ 60 := ⟨h.2.2.2.2.2.2.1.1, h.2.2.2.2.2.2.1.2.1⟩
  have hp := yQ_pil h
  have o8 : up1 m 9 0 8 = m 8 := up1_ne (by omega)
  have g := yQ_of (yK_out (c := c) (w := w) (p := p) hp c0 (by rw [up1_ne (by omega)]; exact c1) p0 (by rw [o8]; exact p1) (by rw [up1_ne (by omega)]; exact hc) w0 w1)
  rw [o8] at g
  refine yQ_fr g (fun i hi => ?_) (fun k i hk => ?_)
  · unfold outM
    by_cases e1 : i = (41724 + c).toNat
    · subst e1
      rw [up1_eq, up1_eq]
    · rw [up1_ne e1, up1_ne e1, o8]
      by_cases e2 : (49044 + p).toNat ≤ i ∧ i < (49044 + p).toNat + (m 8 - 1 - p).toNat
      · rw [cp1_in e2.1 e2.2, cp1_in e2.1 e2.2, up1_ne (by omega), up1_ne (by omega), up1_ne (by omega)]
      · rw [cp1_out (by omega), cp1_out (by omega)]
        by_cases e3 : i = 8
        · subst e3
          rw [up1_eq, up1_eq]
        · rw [up1_ne e3, up1_ne e3, up1_ne hi.1]
  · unfold outC pil
    by_cases e1 : k = 38 ∧ i = 1
    · rw [e1.1, e1.2, up2_eq, up2_eq]
    · rw [up2_ne (by omega), up2_ne (by omega)]
      by_cases e2 : k = 40 ∧ p.toNat ≤ i ∧ i < p.toNat + (m 8 - 1 - p).toNat
      · rw [cp2_in e2.1 e2.2.1 e2.2.2, cp2_in e2.1 e2.2.1 e2.2.2, up2_ne (by omega), up2_ne (by omega), up2_ne (by omega), up2_ne (by omega)]
      · rw [cp2_out (by omega), cp2_out (by omega)]
        by_cases e3 : k = 10 ∧ i = c.toNat
        · rw [e3.1, e3.2, up2_eq, up2_eq]
        · rw [up2_ne (by omega), up2_ne (by omega), up2_ne (by omega), up2_ne (by omega)]
/-- a unit of a kind -/
def ukd (m : Nat → Int) (u k : Int) : Prop := m (41604 + u).toNat = k ∨ (m (41964 + u).toNat ≠ -1 ∧ m (41604 + m (41964 + u).toNat).toNat = k)
def lnA (m : Nat → Int) (i : Int) : Int := m (49044 + i).toNat
/-- at a place of the line stands the first of a ready unit -/
def rfA (m : Nat → Int) (k : Int) : Prop := rdy m (lnA m k) ∧ (m (41964 + lnA m k).toNat = -1 ∨ ∃ j : Int, k < j ∧ j < m 8 ∧ lnA m j = m (41964 + lnA m k).toNat)
noncomputable def fsL (m : Nat → Int) (Q : Int → Prop) : Nat → Int → Int
  | 0, _ => -1
  | n + 1, i => @ite Int (Q i) (Classical.propDecidable _) (lnA m i) (fsL m Q n (i + 1))
theorem fsL_t {m : Nat → Int} {Q : Int → Prop} {n : Nat} {i : Int} (h : Q i) : fsL m Q (n + 1) i = lnA m i := by
  unfold fsL
  rw [if_pos h]
theorem fsL_f {m : Nat → Int} {Q : Int → Prop} {n : Nat} {i : Int} (h : ¬ Q i) : fsL m Q (n + 1) i = fsL m Q n (i + 1) := by
  rw [fsL, if_neg h]
theorem fsL_ok {m : Nat → Int} {Q : Int → Prop} : ∀ (n : Nat) (i : Int), fsL m Q n i ≠ -1 → ∃ k : Int, i ≤ k ∧ k < i + n ∧ Q k ∧ lnA m k = fsL m Q n i ∧ ∀ j : Int, i ≤ j → j < k → ¬ Q j := by
  intro n
  induction n with
  | zero => intro i h; exact absurd rfl h
  | succ n ih =>
    intro i h
    by_cases q : Q i
    · exact ⟨i, Int.le_refl _, by omega, q, (fsL_t q).symm, fun j j0 j1 => by omega⟩
    · rw [fsL_f q] at h ⊢
      obtain ⟨k, k0, k1, k2, k3, k4⟩ := ih (i + 1) h
      exact ⟨k, by omega, by omega, k2, k3, fun j j0 j1 => by
        by_cases e : j = i
        · rw [e]; exact q
        · exact k4 j (by omega) j1⟩
theorem fsL_no {m : Nat → Int} {Q : Int → Prop} : ∀ (n : Nat) (i : Int), (∀ k : Int, i ≤ k → k < i + n → lnA m k ≠ -1) → fsL m Q n i = -1 → ∀ k : Int, i ≤ k → k < i + n → ¬ Q k := by
  intro n
  induction n with
  | zero => intro i _ _ k k0 k1; omega
  | succ n ih =>
    intro i hl h k k0 k1
    by_cases q : Q i
    · rw [fsL_t q] at h
      exact absurd h (hl i (Int.le_refl _) (by omega))
    · rw [fsL_f q] at h
      by_cases e : k = i
      · rw [e]; exact q
      · exact ih (i + 1) (fun k k0 k1 => hl k (by omega) (by omega)) h k (by omega) (by omega)
section
variable {sc : Nat × (Nat → Int)} {μ ν C : xM} {m : Nat → Int}
theorem K45 (h : yA μ m) {u k : Int} (u0 : 0 ≤ u) (u1 : u < m 7) : EV sc 45 [vR 6, vI u, vI k] (SK, μ) = some (some (vI (bI (ukd m u k))), (SK, μ)) := by
  have h7 := h.2.1
  have g := h.2.2.2 u u0 u1
  by_cases e1 : m (41604 + u).toNat = k
  · rw [bI_t (show ukd m u k from Or.inl e1)]
    simp (disch := omega) only [V45, B45_0, B45_1, B45_2, B45_3, B45_4, B45_5, B45_6, G_7, G_9, G_11, G_13, G_15, G_17, G_19, G_21, G_24, G_26, G_28, G_30, G_32, G_34, G_36, G_39, G_42, G_44, G_46, G_48, G_50, G_52, G_55, G_57, G_60, G_62, G_64, G_66, G_68, gt_in, g.1.1, g.1.2.2.2.2.2.1, e1, xcI_some, xcV_some, if_pos, if_neg, xg_in, wr_of, if_true, if_false, or_true, true_or]
  · by_cases e2 : m (41964 + u).toNat = -1
    · rw [bI_f (show ¬ ukd m u k from fun x => x.elim e1 (fun y => y.1 e2))]
      simp (disch := omega) only [V45, B45_0, B45_1, B45_2, B45_3, B45_4, B45_5, B45_6, G_7, G_9, G_11, G_13, G_15, G_17, G_19, G_21, G_24, G_26, G_28, G_30, G_32, G_34, G_36, G_39, G_42, G_44, G_46, G_48, G_50, G_52, G_55, G_57, G_60, G_62, G_64, G_66, G_68, gt_in, g.1.1, g.1.2.2.2.2.2.1, e2, xcI_some, xcV_some, if_pos, if_neg, xg_in, wr_of, if_true, if_false, or_true, true_or]
    · have g5 : 0 ≤ m (41964 + u).toNat ∧ m (41964 + u).toNat < m 7 := by have := g.2.2.2; omega
      have gp := (h.2.2.2 _ g5.1 g5.2).1.1
      by_cases e3 : m (41604 + m (41964 + u).toNat).toNat = k
      · rw [bI_t (show ukd m u k from Or.inr ⟨e2, e3⟩)]
        simp (disch := omega) only [V45, B45_0, B45_1, B45_2, B45_3, B45_4, B45_5, B45_6, G_7, G_9, G_11, G_13, G_15, G_17, G_19, G_21, G_24, G_26, G_28, G_30, G_32, G_34, G_36, G_39, G_42, G_44, G_46, G_48, G_50, G_52, G_55, G_57, G_60, G_62, G_64, G_66, G_68, gt_in, g.1.1, g.1.2.2.2.2.2.1, gp, e3, xcI_some, xcV_some, if_pos, if_neg, xg_in, wr_of, if_true, if_false, or_true, true_or]
      · rw [bI_f (show ¬ ukd m u k from fun x => x.elim e1 (fun y => e3 y.2))]
        simp (disch := omega) only [V45, B45_0, B45_1, B45_2, B45_3, B45_4, B45_5, B45_6, G_7, G_9, G_11, G_13, G_15, G_17, G_19, G_21, G_24, G_26, G_28, G_30, G_32, G_34, G_36, G_39, G_42, G_44, G_46, G_48, G_50, G_52, G_55, G_57, G_60, G_62, G_64, G_66, G_68, gt_in, g.1.1, g.1.2.2.2.2.2.1, gp, xcI_some, xcV_some, if_pos, if_neg, xg_in, wr_of, if_true, if_false, or_true, true_or]
theorem m207 (hν : ν 140 = m) (h : yA C m) {u k : Int} (u0 : 0 ≤ u) (u1 : u < m 7) : EV sc 207 [vR 139, vI u, vI k] (SK, ν) = some (some (vI (bI (ukd m u k))), (SK, ν)) := by
  have h7 := h.2.1
  have g := h.2.2.2 u u0 u1
  by_cases e1 : m (41604 + u).toNat = k
  · rw [bI_t (show ukd m u k from Or.inl e1)]
    simp (disch := omega) only [V207, B207_0, B207_1, B207_2, B207_3, hν, e1, xcI_some, xcV_some, if_pos, if_neg, xg_in, wr_of, if_true, if_false, or_true, true_or]
  · by_cases e2 : m (41964 + u).toNat = -1
    · rw [bI_f (show ¬ ukd m u k from fun x => x.elim e1 (fun y => y.1 e2))]
      simp (disch := omega) only [V207, B207_0, B207_1, B207_2, B207_3, hν, e2, xcI_some, xcV_some, if_pos, if_neg, xg_in, wr_of, if_true, if_false, or_true, true_or]
    · have g5 : 0 ≤ m (41964 + u).toNat ∧ m (41964 + u).toNat < m 7 := by have := g.2.2.2; omega
      by_cases e3 : m (41604 + m (41964 + u).toNat).toNat = k
      · rw [bI_t (show ukd m u k from Or.inr ⟨e2, e3⟩)]
        simp (disch := omega) only [V207, B207_0, B207_1, B207_2, B207_3, hν, e3, xcI_some, xcV_some, if_pos, if_neg, xg_in, wr_of, if_true, if_false, or_true, true_or]
      · rw [bI_f (show ¬ ukd m u k from fun x => x.elim e1 (fun y => e3 y.2))]
        simp (disch := omega) only [V207, B207_0, B207_1, B207_2, B207_3, hν, xcI_some, xcV_some, if_pos, if_neg, xg_in, wr_of, if_true, if_false, or_true, true_or]
theorem K84 (h : yW μ m) {k : Int} (k0 : 0 ≤ k) (k1 : k < m 8) : EV sc 84 [vR 38, vI k] (SK, μ) = some (some (vI (lnA m k)), (SK, μ)) := by
  have w3 := h.2.2.1
  have w2 := h.2.1
  have g := (h.2.2.2.1 k k0 k1).1
  unfold lnA
  simp (disch := omega) only [V84, B84_0, B84_1, B84_2, B84_3, B84_4, isIn_t, G_39, gt_in, w3, g, xcI_some, xcV_some, if_pos, if_neg, xg_in, wr_of, if_true, if_false, or_true, true_or]
theorem K66 (hA : yA μ m) (h : yW μ m) {k : Int} (k0 : 0 ≤ k) (k1 : k < m 8) : EV sc 66 [vR 1, vI k] (SK, μ) = some (some (vI (bI (rfA m k))), (SK, μ)) := by
  obtain ⟨w1, w2, w3, w4, w5, w6⟩ := id h
  have k84 := K84 (sc := sc) h k0 k1
  have g := w4 k k0 k1
  have gl : 0 ≤ lnA m k ∧ lnA m k < m 7 := ⟨g.2.1, g.2.2.1⟩
  have k65 := K65 (sc := sc) hA gl.1 gl.2
  have q := q34 (sc := sc) hA gl.1 gl.2
  have g4 := (hA.2.2.2 _ gl.1 gl.2).2.2.2
  by_cases r : rdy m (lnA m k)
  · rw [bI_t r] at k65
    by_cases e1 : m (41964 + lnA m k).toNat = -1
    · rw [bI_t (show rfA m k from ⟨r, Or.inl e1⟩)]
      simp (disch := omega) only [V66, B66_0, B66_1, B66_2, B66_3, B66_4, B66_5, B66_6, B66_7, B66_8, B66_9, k84, k65, q, e1, xcI_some, xcV_some, if_pos, if_neg, xg_in, wr_of, if_true, if_false, or_true, true_or]
    · have g5 : 0 ≤ m (41964 + lnA m k).toNat ∧ m (41964 + lnA m k).toNat < m 7 := by omega
      have fp : fre m (m (41964 + lnA m k).toNat) := r.2.elim (fun x => absurd x e1) id
      obtain ⟨j, j0, j1, ej⟩ := w6 _ g5.1 g5.2 fp.1
      have k85 := K85 (sc := sc) h j0 j1 ej
      by_cases e2 : k < j
      · rw [bI_t (show rfA m k from ⟨r, Or.inr ⟨j, e2, j1, ej⟩⟩)]
        simp (disch := omega) only [V66, B66_0, B66_1, B66_2, B66_3, B66_4, B66_5, B66_6, B66_7, B66_8, B66_9, k84, k65, q, k85, xcI_some, xcV_some, if_pos, if_neg, xg_in, wr_of, if_true, if_false, or_true, true_or]
      · rw [bI_f (show ¬ rfA m k from fun x => x.2.elim e1 (fun ⟨j2, y0, y1, y2⟩ => by
          have := w5 j2 j (by omega) y1 j0 j1 (y2.trans ej.symm)
          omega))]
        simp (disch := omega) only [V66, B66_0, B66_1, B66_2, B66_3, B66_4, B66_5, B66_6, B66_7, B66_8, B66_9, k84, k65, q, k85, xcI_some, xcV_some, if_pos, if_neg, xg_in, wr_of, if_true, if_false, or_true, true_or]
  · rw [bI_f r] at k65
    rw [bI_f (show ¬ rfA m k from fun x => r x.1)]
    simp (disch := omega) only [V66, B66_0, B66_1, B66_2, B66_3, B66_4, B66_5, B66_6, B66_7, B66_8, B66_9, k84, k65, xcI_some, xcV_some, if_pos, if_neg, xg_in, wr_of, if_true, if_false, or_true, true_or]
theorem m206 (hν : ν 140 = m) (hA : yA C m) (h : yW C m) {k : Int} (k0 : 0 ≤ k) (k1 : k < m 8) : ∃ x : Int, (x = 0 ∨ x = 1) ∧ EV sc 206 [vR 139, vI (lnA m k)] (SK, ν) = some (some (vI x), (SK, ν)) ∧ (rfA m k ↔ x = 1 ∧ rdy m (lnA m k)) := by
  obtain ⟨w1, w2, w3, w4, w5, w6⟩ := id h
  have h7 := hA.2.1
  have g := w4 k k0 k1
  have gl : 0 ≤ lnA m k ∧ lnA m k < m 7 := ⟨g.2.1, g.2.2.1⟩
  have g4 := (hA.2.2.2 _ gl.1 gl.2).2.2.2
  by_cases e1 : m (41964 + lnA m k).toNat = -1
  · refine ⟨1, Or.inr rfl, ?_, ⟨fun x => ⟨rfl, x.1⟩, fun x => ⟨x.2, Or.inl e1⟩⟩⟩
    simp (disch := omega) only [V206, B206_0, B206_1, B206_2, B206_3, B206_4, B206_5, hν, e1, xcI_some, xcV_some, if_pos, if_neg, xg_in, wr_of, if_true, if_false, or_true, true_or]
  · have g5 : 0 ≤ m (41964 + lnA m k).toNat ∧ m (41964 + lnA m k).toNat < m 7 := by omega
    by_cases e3 : m (41724 + m (41964 + lnA m k).toNat).toNat = 1
    · obtain ⟨j, j0, j1, ej⟩ := w6 _ g5.1 g5.2 e3
      have k1' := K198 (sc := sc) hν h k0 k1 (c := lnA m k) rfl
      have k2' := K198 (sc := sc) hν h j0 j1 ej
      by_cases e2 : k < j
      · refine ⟨1, Or.inr rfl, ?_, ⟨fun x => ⟨rfl, x.1⟩, fun x => ⟨x.2, Or.inr ⟨j, e2, j1, ej⟩⟩⟩⟩
        simp (disch := omega) only [V206, B206_0, B206_1, B206_2, B206_3, B206_4, B206_5, hν, e3, k1', k2', xcI_some, xcV_some, if_pos, if_neg, xg_in, wr_of, if_true, if_false, or_true, true_or]
      · refine ⟨0, Or.inl rfl, ?_, ⟨fun x => x.2.elim (fun y => absurd y e1) (fun ⟨j2, y0, y1, y2⟩ => by
          have := w5 j2 j (by omega) y1 j0 j1 (y2.trans ej.symm)
          omega), fun x => absurd x.1 (by omega)⟩⟩
        simp (disch := omega) only [V206, B206_0, B206_1, B206_2, B206_3, B206_4, B206_5, hν, e3, k1', k2', xcI_some, xcV_some, if_pos, if_neg, xg_in, wr_of, if_true, if_false, or_true, true_or]
    · refine ⟨1, Or.inr rfl, ?_, ⟨fun x => ⟨rfl, x.1⟩, fun x => absurd (x.2.2.elim (fun y => absurd y e1) (fun y => y.1)) e3⟩⟩
      simp (disch := omega) only [V206, B206_0, B206_1, B206_2, B206_3, B206_4, B206_5, hν, xcI_some, xcV_some, if_pos, if_neg, xg_in, wr_of, if_true, if_false, or_true, true_or]
theorem K68 (hA : yA μ m) (h : yW μ m) : (fsL m (fun i => rfA m i ∧ ukd m (lnA m i) 1) (m 8).toNat 0 ≠ -1 → EV sc 68 [vR 1] (SK, μ) = some (some (vI (fsL m (fun i => rfA m i ∧ ukd m (lnA m i) 1) (m 8).toNat 0)), (SK, μ))) ∧
    (fsL m (fun i => rfA m i ∧ ukd m (lnA m i) 1) (m 8).toNat 0 = -1 → EV sc 68 [vR 1] (SK, μ) = AT sc 68 9 [vR 1, vI (fsL m (rfA m) (m 8).toNat 0), vN, vN] [] (SK, μ)) := by
  obtain ⟨w1, w2, w3, w4, w5, w6⟩ := id h
  have l : ∀ (k : Nat) (i x : Int), 0 ≤ i → i + k = m 8 → (fsL m (fun i => rfA m i ∧ ukd m (lnA m i) 1) k i ≠ -1 → AT sc 68 1 [vR 1, vI x, vI i, vN] [] (SK, μ) = some (some (vI (fsL m (fun i => rfA m i ∧ ukd m (lnA m i) 1) k i)), (SK, μ))) ∧
      (fsL m (fun i => rfA m i ∧ ukd m (lnA m i) 1) k i = -1 → AT sc 68 1 [vR 1, vI x, vI i, vN] [] (SK, μ) = AT sc 68 9 [vR 1, vI (if x = -1 then fsL m (rfA m) k i else x), vN, vN] [] (SK, μ)) := by
    intro k
    induction k with
    | zero =>
      intro i x i0 e
      refine ⟨fun z => absurd rfl z, fun _ => ?_⟩
      rw [B68_1]
      simp (disch := omega) only [V82, B82_0, w3, B68_2, fsL, xcI_some, xcV_some, if_pos, if_neg, xg_in, wr_of, if_true, if_false, or_true, true_or]
      by_cases ex : x = -1
      · rw [if_pos ex, ex]
      · rw [if_neg ex]
    | succ k ih =>
      intro i x i0 e
      have k66 := K66 (sc := sc) hA h i0 (by omega)
      have k84 := K84 (sc := sc) h i0 (by omega)
      have g := w4 i i0 (by omega)
      have gl : 0 ≤ lnA m i ∧ lnA m i < m 7 := ⟨g.2.1, g.2.2.1⟩
      by_cases r : rfA m i
      · rw [bI_t r] at k66
        have k45 := K45 (sc := sc) (k := 1) hA gl.1 gl.2
        by_cases q : ukd m (lnA m i) 1
        · rw [bI_t q] at k45
          rw [fsL_t (Q := fun i => rfA m i ∧ ukd m (lnA m i) 1) ⟨r, q⟩]
          refine ⟨fun _ => ?_, fun z => by omega⟩
          rw [B68_1]
          simp (disch := omega) only [V82, B82_0, w3, B68_2, k66, B68_3, B68_4, k84, B68_5, k45, B68_6, xcI_some, xcV_some, if_pos, if_neg, xg_in, wr_of, if_true, if_false, or_true, true_or]
        · rw [bI_f q] at k45
          rw [fsL_f (Q := fun i => rfA m i ∧ ukd m (lnA m i) 1) (fun z => q z.2), fsL_t r]
          by_cases ex : x = -1
          · obtain ⟨z1, z2⟩ := ih (i + 1) (lnA m i) (by omega) (by omega)
            rw [if_neg (by omega)] at z2
            rw [if_pos ex]
            refine ⟨fun z => ?_, fun z => ?_⟩
            · have z1' := z1 z
              rw [B68_1]
              simp (disch := omega) only [V82, B82_0, w3, B68_2, k66, B68_3, B68_4, k84, B68_5, k45, B68_6, B68_7, B68_8, z1', xcI_some, xcV_some, if_pos, if_neg, xg_in, wr_of, if_true, if_false, or_true, true_or]
            · have z2' := z2 z
              rw [B68_1]
              simp (disch := omega) only [V82, B82_0, w3, B68_2, k66, B68_3, B68_4, k84, B68_5, k45, B68_6, B68_7, B68_8, z2', xcI_some, xcV_some, if_pos, if_neg, xg_in, wr_of, if_true, if_false, or_true, true_or]
          · obtain ⟨z1, z2⟩ := ih (i + 1) x (by omega) (by omega)
            rw [if_neg ex] at z2 ⊢
            refine ⟨fun z => ?_, fun z => ?_⟩
            · have z1' := z1 z
              rw [B68_1]
              simp (disch := omega) only [V82, B82_0, w3, B68_2, k66, B68_3, B68_4, k84, B68_5, k45, B68_6, B68_7, B68_8, z1', xcI_some, xcV_some, if_pos, if_neg, xg_in, wr_of, if_true, if_false, or_true, true_or]
            · have z2' := z2 z
              rw [B68_1]
              simp (disch := omega) only [V82, B82_0, w3, B68_2, k66, B68_3, B68_4, k84, B68_5, k45, B68_6, B68_7, B68_8, z2', xcI_some, xcV_some, if_pos, if_neg, xg_in, wr_of, if_true, if_false, or_true, true_or]
      · rw [bI_f r] at k66
        rw [fsL_f (Q := fun i => rfA m i ∧ ukd m (lnA m i) 1) (fun z => r z.1), fsL_f r]
        obtain ⟨z1, z2⟩ := ih (i + 1) x (by omega) (by omega)
        refine ⟨fun z => ?_, fun z => ?_⟩
        · have z1' := z1 z
          rw [B68_1]
          simp (disch := omega) only [V82, B82_0, w3, B68_2, k66, B68_3, B68_8, z1', xcI_some, xcV_some, if_pos, if_neg, xg_in, wr_of, if_true, if_false, or_true, true_or]
        · have z2' := z2 z
          rw [B68_1]
          simp (disch := omega) only [V82, B82_0, w3, B68_2, k66, B68_3, B68_8, z2', xcI_some, xcV_some, if_pos, if_neg, xg_in, wr_of, if_true, if_false, or_true, true_or]
  obtain ⟨z1, z2⟩ := l (m 8).toNat 0 (-1) (by omega) (by omega)
  rw [if_pos rfl] at z2
  rw [V68, B68_0]
  exact ⟨z1, z2⟩
theorem m211 (hν : ν 140 = m) (hA : yA C m) (h : yW C m) {kd : Int} : EV sc 211 [vR 139, vI kd] (SK, ν) = some (some (vI (fsL m (fun i => rfA m i ∧ (kd = -1 ∨ ukd m (lnA m i) kd)) (m 8).toNat 0)), (SK, ν)) := by
  obtain ⟨w1, w2, w3, w4, w5, w6⟩ := id h
  have h7 := hA.2.1
  have l : ∀ (k : Nat) (i : Int), 0 ≤ i → i + k = m 8 → AT sc 211 1 [vR 139, vI kd, vI i, vN] [] (SK, ν) = some (some (vI (fsL m (fun i => rfA m i ∧ (kd = -1 ∨ ukd m (lnA m i) kd)) k i)), (SK, ν)) := by
    intro k
    induction k with
    | zero =>
      intro i i0 e
      rw [B211_1]
      simp (disch := omega) only [hν, B211_7, fsL, xcI_some, xcV_some, if_pos, if_neg, xg_in, wr_of, if_true, if_false, or_true, true_or]
    | succ k ih =>
      intro i i0 e
      have ih1 := ih (i + 1) (by omega) (by omega)
      have g := w4 i i0 (by omega)
      have gl : 0 ≤ lnA m i ∧ lnA m i < m 7 := ⟨g.2.1, g.2.2.1⟩
      have el : m (49044 + i).toNat = lnA m i := rfl
      obtain ⟨x, x01, k206, hx⟩ := m206 (sc := sc) hν hA h i0 (by omega : i < m 8)
      have k205 := m205 (sc := sc) hν hA gl.1 gl.2
      have k207 := m207 (sc := sc) (k := kd) hν hA gl.1 gl.2
      rw [B211_1]
      by_cases r : rfA m i
      · obtain ⟨r1, r2⟩ := hx.mp r
        rw [r1] at k206
        rw [bI_t r2] at k205
        clear hx
        by_cases e1 : kd = -1
        · rw [fsL_t (Q := fun i => rfA m i ∧ (kd = -1 ∨ ukd m (lnA m i) kd)) ⟨r, Or.inl e1⟩]
          simp (disch := omega) only [hν, el, k206, B211_2, k205, B211_3, B211_5, xcI_some, xcV_some, if_pos, if_neg, xg_in, wr_of, if_true, if_false, or_true, true_or]
        · by_cases e2 : ukd m (lnA m i) kd
          · rw [bI_t e2] at k207
            rw [fsL_t (Q := fun i => rfA m i ∧ (kd = -1 ∨ ukd m (lnA m i) kd)) ⟨r, Or.inr e2⟩]
            simp (disch := omega) only [hν, el, k206, B211_2, k205, B211_3, k207, B211_4, B211_5, xcI_some, xcV_some, if_pos, if_neg, xg_in, wr_of, if_true, if_false, or_true, true_or]
          · rw [bI_f e2] at k207
            rw [fsL_f (Q := fun i => rfA m i ∧ (kd = -1 ∨ ukd m (lnA m i) kd)) (fun z => z.2.elim e1 e2)]
            simp (disch := omega) only [hν, el, k206, B211_2, k205, B211_3, k207, B211_4, B211_6, ih1, xcI_some, xcV_some, if_pos, if_neg, xg_in, wr_of, if_true, if_false, or_true, true_or]
      · rw [fsL_f (Q := fun i => rfA m i ∧ (kd = -1 ∨ ukd m (lnA m i) kd)) (fun z => r z.1)]
        by_cases r2 : rdy m (lnA m i)
        · have x0 : x = 0 := x01.elim id (fun y => absurd (hx.mpr ⟨y, r2⟩) r)
          rw [x0] at k206
          clear hx
          simp (disch := omega) only [hν, el, k206, B211_2, B211_6, ih1, xcI_some, xcV_some, if_pos, if_neg, xg_in, wr_of, if_true, if_false, or_true, true_or]
        · rw [bI_f r2] at k205
          clear hx
          by_cases x0 : x = 0
          · rw [x0] at k206
            simp (disch := omega) only [hν, el, k206, B211_2, B211_6, ih1, xcI_some, xcV_some, if_pos, if_neg, xg_in, wr_of, if_true, if_false, or_true, true_or]
          · simp (disch := omega) only [hν, el, k206, B211_2, k205, B211_3, B211_6, ih1, xcI_some, xcV_some, if_pos, if_neg, xg_in, wr_of, if_true, if_false, or_true, true_or]
  rw [V211, B211_0, l (m 8).toNat 0 (by omega) (by omega)]
end

/-! tests on a slot: holds -/
def vlF (m : Nat → Int) (s f : Int) : Nat → Int := fun i => m (524 + (320 * s + 40 * f + (i : Int))).toNat
noncomputable def gvF (m : Nat → Int) (s f name : Int) : Nat → Int := fun i => if nm (m (524 + (320 * s + 40 * f + (i : Int))).toNat) 1000 = name then 1 else 0
noncomputable def gvN (m : Nat → Int) (s name : Int) : Nat → Int := fun f => sumN (gvF m s (f : Int) name) (m (12 + 8 * s + (f : Int)).toNat).toNat
noncomputable def gv (m : Nat → Int) (s name : Int) : Int := sumN (gvN m s name) 8
def knO (m : Nat → Int) (s f : Int) (i : Nat) : Prop := nm (m (524 + (320 * s + 40 * f + (i : Int))).toNat) 2000 ≠ -1 → gv m s (nm (m (524 + (320 * s + 40 * f + (i : Int))).toNat) 2000) ≠ 0
def riO (m : Nat → Int) (s f : Int) (i : Nat) : Prop := m (524 + (320 * s + 40 * f + ((i : Int) - 1))).toNat ≤ m (524 + (320 * s + 40 * f + (i : Int))).toNat
def soP (m : Nat → Int) (s k a b c : Int) : Prop := (k = 0 ∧ sumN (vlF m s a) (m (12 + 8 * s + a).toNat).toNat % b = c) ∨ (k = 1 ∧ b ≤ gv m s a) ∨ (k = 2 ∧ ∀ i : Nat, i < (m (12 + 8 * s + a).toNat).toNat → knO m s a i) ∨
  (k = 3 ∧ b ≤ m (12 + 8 * s + a).toNat ∧ m (12 + 8 * s + a).toNat ≤ c) ∨ (k = 4 ∧ ∀ i : Nat, 1 ≤ i → i < (m (12 + 8 * s + a).toNat).toNat → riO m s a i)
def so (m : Nat → Int) (t s : Int) : Prop := soP m s (m (41484 + t).toNat) (m (41508 + t).toNat) (m (41532 + t).toNat) (m (41556 + t).toNat)
theorem nm_lo {v b : Int} : -1 ≤ nm v b ∧ nm v b ≤ 31 := by
  unfold nm
  split <;> omega
theorem gvF_01 {m : Nat → Int} {s f name : Int} {i : Nat} : 0 ≤ gvF m s f name i ∧ gvF m s f name i ≤ 1 := by
  unfold gvF
  split <;> omega
section
variable {sc : Nat × (Nat → Int)} {μ ν C : xM} {m : Nat → Int} {s : Int}
theorem gvN_bd (hF : ∀ f : Int, 0 ≤ f → f < 8 → yF C m s s f) {name : Int} {f : Nat} (h : f < 8) : 0 ≤ gvN m s name f ∧ gvN m s name f ≤ 24 := by
  obtain ⟨g1, g2, g3, g4⟩ := hF f (by omega) (by omega)
  unfold gvN
  refine ⟨sumN_lo _ (fun k _ => gvF_01.1), ?_⟩
  have := sumN_hi (f := gvF m s f name) (b := 1) (m (12 + 8 * s + (f : Int)).toNat).toNat (fun k _ => gvF_01.2)
  omega
theorem gv_bd (hF : ∀ f : Int, 0 ≤ f → f < 8 → yF C m s s f) {name : Int} {j : Nat} (h : j ≤ 8) : 0 ≤ sumN (gvN m s name) j ∧ sumN (gvN m s name) j ≤ 24 * j := ⟨sumN_lo _ (fun k hk => (gvN_bd hF (by omega)).1), sumN_hi _ (fun k hk => (gvN_bd hF (by omega)).2)⟩
theorem vl_bd (hF : ∀ f : Int, 0 ≤ f → f < 8 → yF C m s s f) {f : Int} (f0 : 0 ≤ f) (f1 : f < 8) {j : Nat} (h : (j : Int) ≤ m (12 + 8 * s + f).toNat) : 0 ≤ sumN (vlF m s f) j ∧ sumN (vlF m s f) j ≤ 9999 * j := by
  have g := (hF f f0 f1).2.2.2
  exact ⟨sumN_lo _ (fun k hk => (g k (by omega) (by omega)).2.2.2.2.1), sumN_hi _ (fun k hk => (g k (by omega) (by omega)).2.2.2.2.2)⟩
theorem K11 (hF : ∀ f : Int, 0 ≤ f → f < 8 → yF μ m s s f) (h1 : m 1 ≤ 1152) (s0 : 0 ≤ s) (s1 : s < 63) {name : Int} : EV sc 11 [vR 2, vI s, vI name] (SK, μ) = some (some (vI (gv m s name)), (SK, μ)) := by
  have inner : ∀ (f : Nat), f < 8 → ∀ (k j : Nat) (i acc b : Int), i = j → j + k = (m (12 + 8 * s + (f : Int)).toNat).toNat → acc = b + sumN (gvF m s f name) j → 0 ≤ b → b ≤ 1000 → AT sc 11 3 [vR 2, vI s, vI name, vI acc, vI f, vI (m (12 + 8 * s + (f : Int)).toNat), vI i] [] (SK, μ) = AT sc 11 7 [vR 2, vI s, vI name, vI (b + gvN m s name f), vI f, vN, vN] [] (SK, μ) := by
    intro f hf k
    obtain ⟨g1, g2, g3, g4⟩ := hF f (by omega) (by omega)
    induction k with
    | zero =>
      intro j i acc b hi e ha b0 b1
      rw [B11_3]
      simp (disch := omega) only [xcI_some, xcV_some, if_pos, if_neg, xg_in, wr_of, if_true, if_false, or_true, true_or]
      rw [ha, show j = (m (12 + 8 * s + (f : Int)).toNat).toNat by omega]
      rfl
    | succ k ih =>
      intro j i acc b hi e ha b0 b1
      have hb0 := sumN_lo (f := gvF m s f name) j (fun k _ => gvF_01.1)
      have hb1 := sumN_hi (f := gvF m s f name) (b := 1) j (fun k _ => gvF_01.2)
      obtain ⟨q1, q2, q3, q4, q5, q6⟩ := g4 i (by omega) (by omega)
      rw [B11_3]
      by_cases d : nm (m (524 + (320 * s + 40 * (f : Int) + i)).toNat) 1000 = name
      · have ih1 := ih (j + 1) (i + 1) (acc + 1) b (by omega) (by omega) (by unfold sumN; rw [ha, show gvF m s f name j = 1 by unfold gvF; rw [← hi, if_pos d]]; omega) b0 b1
        simp (disch := omega) only [K7_in, q1, B11_4, K9, q4, d, B11_5, B11_6, ih1, xcI_some, xcV_some, if_pos, if_neg, xg_in, wr_of, if_true, if_false, or_true, true_or]
      · have ih1 := ih (j + 1) (i + 1) acc b (by omega) (by omega) (by unfold sumN; rw [ha, show gvF m s f name j = 0 by unfold gvF; rw [← hi, if_neg d]]; omega) b0 b1
        simp (disch := omega) only [K7_in, q1, B11_4, K9, q4, d, B11_5, B11_6, ih1, xcI_some, xcV_some, if_pos, if_neg, xg_in, wr_of, if_true, if_false, or_true, true_or]
  have l : ∀ (k j : Nat) (i acc : Int), i = j → j + k = 8 → acc = sumN (gvN m s name) j → AT sc 11 1 [vR 2, vI s, vI name, vI acc, vI i, vN, vN] [] (SK, μ) = some (some (vI (gv m s name)), (SK, μ)) := by
    intro k
    induction k with
    | zero =>
      intro j i acc hi e ha
      rw [B11_1]
      simp (disch := omega) only [B11_8, xcI_some, xcV_some, if_pos, if_neg, xg_in, wr_of, if_true, if_false, or_true, true_or]
      rw [ha, show j = 8 by omega]
      rfl
    | succ k ih =>
      intro j i acc hi e ha
      obtain ⟨g1, g2, g3, g4⟩ := hF i (by omega) (by omega)
      have hb := gv_bd hF (name := name) (j := j) (by omega)
      have ih1 := ih (j + 1) (i + 1) (acc + gvN m s name j) (by omega) (by omega) (by unfold sumN; rw [ha])
      subst hi
      have g := inner j (by omega) (m (12 + 8 * s + (j : Int)).toNat).toNat 0 0 acc acc rfl (by omega) (by unfold sumN; omega) (by omega) (by omega)
      rw [B11_1]
      simp (disch := omega) only [K5, g1, B11_2, g, B11_7, ih1, xcI_some, xcV_some, if_pos, if_neg, xg_in, wr_of, if_true, if_false, or_true, true_or]
  rw [V11, B11_0, l 8 0 0 0 rfl rfl rfl]
theorem m177 (hν : ν 140 = m) (hF : ∀ f : Int, 0 ≤ f → f < 8 → yF C m s s f) (s0 : 0 ≤ s) (s1 : s < 64) {name : Int} : EV sc 177 [vR 139, vI s, vI name] (SK, ν) = some (some (vI (gv m s name)), (SK, ν)) := by
  have inner : ∀ (f : Nat), f < 8 → ∀ (k j : Nat) (i acc b : Int), i = j → j + k = (m (12 + 8 * s + (f : Int)).toNat).toNat → acc = b + sumN (gvF m s f name) j → 0 ≤ b → b ≤ 1000 → AT sc 177 2 [vR 139, vI s, vI name, vI acc, vI f, vI i] [] (SK, ν) = AT sc 177 8 [vR 139, vI s, vI name, vI (b + gvN m s name f), vI f, vN] [] (SK, ν) := by
    intro f hf k
    obtain ⟨g1, g2, g3, g4⟩ := hF f (by omega) (by omega)
    induction k with
    | zero =>
      intro j i acc b hi e ha b0 b1
      rw [B177_2]
      simp (disch := omega) only [m166, hν, B177_3, xcI_some, xcV_some, if_pos, if_neg, xg_in, wr_of, if_true, if_false, or_true, true_or]
      rw [ha, show j = (m (12 + 8 * s + (f : Int)).toNat).toNat by omega]
      rfl
    | succ k ih =>
      intro j i acc b hi e ha b0 b1
      have hb0 := sumN_lo (f := gvF m s f name) j (fun k _ => gvF_01.1)
      have hb1 := sumN_hi (f := gvF m s f name) (b := 1) j (fun k _ => gvF_01.2)
      obtain ⟨q1, q2, q3, q4, q5, q6⟩ := g4 i (by omega) (by omega)
      rw [B177_2]
      by_cases d : nm (m (524 + (320 * s + 40 * (f : Int) + i)).toNat) 1000 = name
      · have ih1 := ih (j + 1) (i + 1) (acc + 1) b (by omega) (by omega) (by unfold sumN; rw [ha, show gvF m s f name j = 1 by unfold gvF; rw [← hi, if_pos d]]; omega) b0 b1
        simp (disch := omega) only [m166, hν, B177_3, m167, B177_4, m176, d, B177_5, B177_6, B177_7, ih1, xcI_some, xcV_some, if_pos, if_neg, xg_in, wr_of, if_true, if_false, or_true, true_or]
      · have ih1 := ih (j + 1) (i + 1) acc b (by omega) (by omega) (by unfold sumN; rw [ha, show gvF m s f name j = 0 by unfold gvF; rw [← hi, if_neg d]]; omega) b0 b1
        have ea : acc + 0 = acc := by omega
        simp (disch := omega) only [m166, hν, B177_3, m167, B177_4, m176, d, B177_5, B177_6, B177_7, ea, ih1, xcI_some, xcV_some, if_pos, if_neg, xg_in, wr_of, if_true, if_false, or_true, true_or]
  have l : ∀ (k j : Nat) (i acc : Int), i = j → j + k = 8 → acc = sumN (gvN m s name) j → AT sc 177 1 [vR 139, vI s, vI name, vI acc, vI i, vN] [] (SK, ν) = some (some (vI (gv m s name)), (SK, ν)) := by
    intro k
    induction k with
    | zero =>
      intro j i acc hi e ha
      rw [B177_1]
      simp (disch := omega) only [B177_9, xcI_some, xcV_some, if_pos, if_neg, xg_in, wr_of, if_true, if_false, or_true, true_or]
      rw [ha, show j = 8 by omega]
      rfl
    | succ k ih =>
      intro j i acc hi e ha
      have hb := gv_bd hF (name := name) (j := j) (by omega)
      have ih1 := ih (j + 1) (i + 1) (acc + gvN m s name j) (by omega) (by omega) (by unfold sumN; rw [ha])
      subst hi
      have g := inner j (by omega) (m (12 + 8 * s + (j : Int)).toNat).toNat 0 0 acc acc rfl (by omega) (by unfold sumN; omega) (by omega) (by omega)
      rw [B177_1]
      simp (disch := omega) only [g, B177_8, ih1, xcI_some, xcV_some, if_pos, if_neg, xg_in, wr_of, if_true, if_false, or_true, true_or]
  rw [V177, B177_0, l 8 0 0 0 rfl rfl rfl]
theorem K128 (hF : ∀ f : Int, 0 ≤ f → f < 8 → yF μ m s s f) (h1 : m 1 ≤ 1152) (s0 : 0 ≤ s) (s1 : s < 63) {f : Int} (f0 : 0 ≤ f) (f1 : f < 8) : EV sc 128 [vR 2, vI s, vI f] (SK, μ) = some (some (vI (sumN (vlF m s f) (m (12 + 8 * s + f).toNat).toNat)), (SK, μ)) := by
  obtain ⟨g1, g2, g3, g4⟩ := hF f f0 f1
  have l : ∀ (k j : Nat) (i acc : Int), i = j → j + k = (m (12 + 8 * s + f).toNat).toNat → acc = sumN (vlF m s f) j → AT sc 128 2 [vR 2, vI s, vI f, vI acc, vI (m (12 + 8 * s + f).toNat), vI i] [] (SK, μ) = some (some (vI (sumN (vlF m s f) (m (12 + 8 * s + f).toNat).toNat)), (SK, μ)) := by
    intro k
    induction k with
    | zero =>
      intro j i acc hi e ha
      rw [B128_2]
      simp (disch := omega) only [B128_5, xcI_some, xcV_some, if_pos, if_neg, xg_in, wr_of, if_true, if_false, or_true, true_or]
      rw [ha, show j = (m (12 + 8 * s + f).toNat).toNat by omega]
    | succ k ih =>
      intro j i acc hi e ha
      have hb := vl_bd hF f0 f1 (j := j) (by omega)
      obtain ⟨q1, q2, q3, q4, q5, q6⟩ := g4 i (by omega) (by omega)
      have ih1 := ih (j + 1) (i + 1) (acc + m (524 + (320 * s + 40 * f + i)).toNat) (by omega) (by omega) (by unfold sumN vlF; rw [ha, hi]; rfl)
      rw [B128_2]
      simp (disch := omega) only [K7_in, q1, B128_3, K8, q4, B128_4, ih1, xcI_some, xcV_some, if_pos, if_neg, xg_in, wr_of, if_true, if_false, or_true, true_or]
  have l0 := l (m (12 + 8 * s + f).toNat).toNat 0 0 0 rfl (by omega) rfl
  simp (disch := omega) only [V128, B128_0, K5, g1, B128_1, l0, xcI_some, xcV_some, if_pos, if_neg, xg_in, wr_of, if_true, if_false, or_true, true_or]
theorem K129 (hF : ∀ f : Int, 0 ≤ f → f < 8 → yF μ m s s f) (h1 : m 1 ≤ 1152) (s0 : 0 ≤ s) (s1 : s < 63) {f : Int} (f0 : 0 ≤ f) (f1 : f < 8) : EV sc 129 [vR 2, vI s, vI f] (SK, μ) = some (some (vI (bI (∀ i : Nat, i < (m (12 + 8 * s + f).toNat).toNat → knO m s f i))), (SK, μ)) := by
  obtain ⟨g1, g2, g3, g4⟩ := hF f f0 f1
  have l : ∀ (k j : Nat) (i : Int), i = j → j + k = (m (12 + 8 * s + f).toNat).toNat → (∀ i : Nat, i < j → knO m s f i) → AT sc 129 2 [vR 2, vI s, vI f, vI (m (12 + 8 * s + f).toNat), vI i, vN] [] (SK, μ) = some (some (vI (bI (∀ i : Nat, i < (m (12 + 8 * s + f).toNat).toNat → knO m s f i))), (SK, μ)) := by
    intro k
    induction k with
    | zero =>
      intro j i hi e ha
      rw [B129_2, bI_t (show ∀ i : Nat, i < (m (12 + 8 * s + f).toNat).toNat → knO m s f i from fun i h => ha i (by omega))]
      simp (disch := omega) only [B129_7, xcI_some, xcV_some, if_pos, if_neg, xg_in, wr_of, if_true, if_false, or_true, true_or]
    | succ k ih =>
      intro j i hi e ha
      obtain ⟨q1, q2, q3, q4, q5, q6⟩ := g4 i (by omega) (by omega)
      have hn := nm_lo (v := m (524 + (320 * s + 40 * f + i)).toNat) (b := 2000)
      by_cases ok : knO m s f j
      · have ih1 := ih (j + 1) (i + 1) (by omega) (by omega) (fun i' h' => by
          by_cases e2 : i' = j
          · rw [e2]; exact ok
          · exact ha i' (by omega))
        rw [B129_2]
        unfold knO at ok
        rw [← hi] at ok
        by_cases d : nm (m (524 + (320 * s + 40 * f + i)).toNat) 2000 = -1
        · simp (disch := omega) only [K7_in, q1, B129_3, K10, q4, d, B129_4, B129_6, ih1, xcI_some, xcV_some, if_pos, if_neg, xg_in, wr_of, if_true, if_false, or_true, true_or]
        · have k11 := K11 (sc := sc) (name := nm (m (524 + (320 * s + 40 * f + i)).toNat) 2000) hF h1 s0 s1
          have d2 := ok d
          simp (disch := omega) only [K7_in, q1, B129_3, K10, q4, B129_4, k11, B129_5, B129_6, ih1, xcI_some, xcV_some, if_pos, if_neg, xg_in, wr_of, if_true, if_false, or_true, true_or]
      · rw [B129_2, bI_f (show ¬ ∀ i : Nat, i < (m (12 + 8 * s + f).toNat).toNat → knO m s f i from fun h => ok (h j (by omega)))]
        have d : nm (m (524 + (320 * s + 40 * f + i)).toNat) 2000 ≠ -1 := fun x => ok (fun y => by rw [← hi] at y; exact absurd x y)
        have d2 : gv m s (nm (m (524 + (320 * s + 40 * f + i)).toNat) 2000) = 0 := by
          by_cases x : gv m s (nm (m (524 + (320 * s + 40 * f + i)).toNat) 2000) = 0
          · exact x
          · exact absurd (fun _ => by rw [← hi]; exact x) ok
        have k11 := K11 (sc := sc) (name := nm (m (524 + (320 * s + 40 * f + i)).toNat) 2000) hF h1 s0 s1
        rw [d2] at k11
        simp (disch := omega) only [K7_in, q1, B129_3, K10, q4, B129_4, k11, B129_5, xcI_some, xcV_some, if_pos, if_neg, xg_in, wr_of, if_true, if_false, or_true, true_or]
  have l0 := l (m (12 + 8 * s + f).toNat).toNat 0 0 rfl (by omega) (fun i h => absurd h (by omega))
  simp (disch := omega) only [V129, B129_0, K5, g1, B129_1, l0, xcI_some, xcV_some, if_pos, if_neg, xg_in, wr_of, if_true, if_false, or_true, true_or]
theorem K130 (hF : ∀ f : Int, 0 ≤ f → f < 8 → yF μ m s s f) (h1 : m 1 ≤ 1152) (s0 : 0 ≤ s) (s1 : s < 63) {f : Int} (f0 : 0 ≤ f) (f1 : f < 8) : EV sc 130 [vR 2, vI s, vI f] (SK, μ) = some (some (vI (bI (∀ i : Nat, 1 ≤ i → i < (m (12 + 8 * s + f).toNat).toNat → riO m s f i))), (SK, μ)) := by
  obtain ⟨g1, g2, g3, g4⟩ := hF f f0 f1
  have l : ∀ (k j : Nat) (i : Int), i = j → 1 ≤ j → (m (12 + 8 * s + f).toNat).toNat ≤ j + k → (∀ i : Nat, 1 ≤ i → i < j → riO m s f i) → AT sc 130 2 [vR 2, vI s, vI f, vI (m (12 + 8 * s + f).toNat), vI i, vN] [] (SK, μ) = some (some (vI (bI (∀ i : Nat, 1 ≤ i → i < (m (12 + 8 * s + f).toNat).toNat → riO m s f i))), (SK, μ)) := by
    intro k
    induction k with
    | zero =>
      intro j i hi j1 e ha
      rw [B130_2, bI_t (show ∀ i : Nat, 1 ≤ i → i < (m (12 + 8 * s + f).toNat).toNat → riO m s f i from fun i h0 h => ha i h0 (by omega))]
      simp (disch := omega) only [B130_8, xcI_some, xcV_some, if_pos, if_neg, xg_in, wr_of, if_true, if_false, or_true, true_or]
    | succ k ih =>
      intro j i hi j1 e ha
      by_cases hj : (m (12 + 8 * s + f).toNat).toNat ≤ j
      · rw [B130_2, bI_t (show ∀ i : Nat, 1 ≤ i → i < (m (12 + 8 * s + f).toNat).toNat → riO m s f i from fun i h0 h => ha i h0 (by omega))]
        simp (disch := omega) only [B130_8, xcI_some, xcV_some, if_pos, if_neg, xg_in, wr_of, if_true, if_false, or_true, true_or]
      · obtain ⟨q1, q2, q3, q4, q5, q6⟩ := g4 i (by omega) (by omega)
        obtain ⟨r1, r2, r3, r4, r5, r6⟩ := g4 (i - 1) (by omega) (by omega)
        by_cases ok : riO m s f j
        · have ih1 := ih (j + 1) (i + 1) (by omega) (by omega) (by omega) (fun i' h0 h' => by
            by_cases e2 : i' = j
            · rw [e2]; exact ok
            · exact ha i' h0 (by omega))
          rw [B130_2]
          unfold riO at ok
          rw [← hi] at ok
          simp (disch := omega) only [K7_in, q1, r1, B130_3, K8, q4, r4, B130_4, B130_5, B130_6, B130_7, ih1, xcI_some, xcV_some, if_pos, if_neg, xg_in, wr_of, if_true, if_false, or_true, true_or]
        · rw [B130_2, bI_f (show ¬ ∀ i : Nat, 1 ≤ i → i < (m (12 + 8 * s + f).toNat).toNat → riO m s f i from fun h => ok (h j j1 (by omega)))]
          unfold riO at ok
          rw [← hi] at ok
          simp (disch := omega) only [K7_in, q1, r1, B130_3, K8, q4, r4, B130_4, B130_5, B130_6, xcI_some, xcV_some, if_pos, if_neg, xg_in, wr_of, if_true, if_false, or_true, true_or]
  have l0 := l (m (12 + 8 * s + f).toNat).toNat 1 1 rfl (by omega) (by omega) (fun i h0 h => absurd h (by omega))
  simp (disch := omega) only [V130, B130_0, K5, g1, B130_1, l0, xcI_some, xcV_some, if_pos, if_neg, xg_in, wr_of, if_true, if_false, or_true, true_or]
theorem bI_if {P : Prop} {b : Int} (h : b = bI P) : (b = 0 ∨ b = 1) := by
  rcases bI_01 (P := P) with g | g <;> omega
theorem K127 (hT : yT μ m) (hF : ∀ f : Int, 0 ≤ f → f < 8 → yF μ m s s f) (h1 : m 1 ≤ 1152) (s0 : 0 ≤ s) (s1 : s < 63) {t : Int} (t0 : 0 ≤ t) (t1 : t < m 6) : EV sc 127 [vR 59, vI t, vR 2, vI s] (SK, μ) = some (some (vI (bI (so m t s))), (SK, μ)) := by
  have h6 := hT.1
  obtain ⟨e1, e2, e3, e4, e5, e6⟩ := hT.2.2.2 t t0 t1
  have G1 : EV sc 18 [vR 62, vI t] (SK, μ) = some (some (vI (m (41508 + t).toNat)), (SK, μ)) := by rw [G_62, gt_in t0 (by omega), e2]
  have G2 : EV sc 18 [vR 64, vI t] (SK, μ) = some (some (vI (m (41532 + t).toNat)), (SK, μ)) := by rw [G_64, gt_in t0 (by omega), e3]
  have G3 : EV sc 18 [vR 66, vI t] (SK, μ) = some (some (vI (m (41556 + t).toNat)), (SK, μ)) := by rw [G_66, gt_in t0 (by omega), e4]
  have G4 : EV sc 18 [vR 60, vI t] (SK, μ) = some (some (vI (m (41484 + t).toNat)), (SK, μ)) := by rw [G_60, gt_in t0 (by omega), e1]
  unfold so
  simp (disch := omega) only [V127, B127_0, B127_1, B127_2, B127_3, B127_4, G1, G2, G3, G4, xcI_some, xcV_some, if_pos, if_neg, xg_in, wr_of, if_true, if_false, or_true, true_or]
  clear G1 G2 G3 G4 e1 e2 e3 e4 e5
  generalize m (41508 + t).toNat = a at *
  generalize m (41532 + t).toNat = b at *
  generalize m (41556 + t).toNat = c at *
  generalize m (41484 + t).toNat = kd at *
  generalize m (41580 + t).toNat = q at *
  obtain ⟨f1, f2, f3, f4, f5, f6, f7, f8⟩ := e6
  rcases (show kd = 0 ∨ kd = 1 ∨ kd = 2 ∨ kd = 3 ∨ kd = 4 by omega) with g | g | g | g | g <;> subst g
  · have k := K128 (sc := sc) hF h1 s0 s1 f3 (by omega : a < 8)
    have hb := vl_bd hF f3 (by omega : a < 8) (j := (m (12 + 8 * s + a).toNat).toNat) (by have := (hF a f3 (by omega)).2.1; omega)
    by_cases ok : sumN (vlF m s a) (m (12 + 8 * s + a).toNat).toNat % b = c
    · rw [bI_t (show soP m s 0 a b c from Or.inl ⟨rfl, ok⟩)]
      simp (disch := omega) only [B127_5, B127_6, B127_7, B127_8, k, ok, xcI_some, xcV_some, if_pos, if_neg, xg_in, wr_of, if_true, if_false, or_true, true_or]
    · rw [bI_f (show ¬ soP m s 0 a b c from fun x => by unfold soP at x; omega)]
      simp (disch := omega) only [B127_5, B127_6, B127_7, B127_8, k, ok, xcI_some, xcV_some, if_pos, if_neg, xg_in, wr_of, if_true, if_false, or_true, true_or]
  · have k := K11 (sc := sc) (name := a) hF h1 s0 s1
    by_cases ok : b ≤ gv m s a
    · rw [bI_t (show soP m s 1 a b c from Or.inr (Or.inl ⟨rfl, ok⟩))]
      simp (disch := omega) only [B127_9, B127_10, B127_11, B127_12, k, xcI_some, xcV_some, if_pos, if_neg, xg_in, wr_of, if_true, if_false, or_true, true_or]
    · rw [bI_f (show ¬ soP m s 1 a b c from fun x => by unfold soP at x; omega)]
      simp (disch := omega) only [B127_9, B127_10, B127_11, B127_12, k, xcI_some, xcV_some, if_pos, if_neg, xg_in, wr_of, if_true, if_false, or_true, true_or]
  · have k := K129 (sc := sc) hF h1 s0 s1 f3 (by omega : a < 8)
    rw [bI_iff (show (∀ i : Nat, i < (m (12 + 8 * s + a).toNat).toNat → knO m s a i) ↔ soP m s 2 a b c from ⟨fun x => Or.inr (Or.inr (Or.inl ⟨rfl, x⟩)), fun x => by
      rcases x with x | x | x | x | x
      · exact absurd x.1 (by omega)
      · exact absurd x.1 (by omega)
      · exact x.2
      · exact absurd x.1 (by omega)
      · exact absurd x.1 (by omega)⟩)] at k
    simp (disch := omega) only [B127_13, B127_14, k, xcI_some, xcV_some, if_pos, if_neg, xg_in, wr_of, if_true, if_false, or_true, true_or]
    exact if_pos (bI_if rfl)
  · have k := K5 (sc := sc) (μ := μ) (s := s) (f := a) s0 s1 f3 (by omega)
    rw [(hF a f3 (by omega)).1] at k
    by_cases ok : b ≤ m (12 + 8 * s + a).toNat ∧ m (12 + 8 * s + a).toNat ≤ c
    · rw [bI_t (show soP m s 3 a b c from Or.inr (Or.inr (Or.inr (Or.inl ⟨rfl, ok⟩))))]
      simp (disch := omega) only [B127_15, B127_16, B127_17, B127_18, B127_19, k, xcI_some, xcV_some, if_pos, if_neg, xg_in, wr_of, if_true, if_false, or_true, true_or]
    · rw [bI_f (show ¬ soP m s 3 a b c from fun x => by unfold soP at x; omega)]
      by_cases o2 : m (12 + 8 * s + a).toNat < b
      · simp (disch := omega) only [B127_15, B127_16, B127_17, B127_18, B127_19, k, xcI_some, xcV_some, if_pos, if_neg, xg_in, wr_of, if_true, if_false, or_true, true_or]
      · simp (disch := omega) only [B127_15, B127_16, B127_17, B127_18, B127_19, k, xcI_some, xcV_some, if_pos, if_neg, xg_in, wr_of, if_true, if_false, or_true, true_or]
  · have k := K130 (sc := sc) hF h1 s0 s1 f3 (by omega : a < 8)
    rw [bI_iff (show (∀ i : Nat, 1 ≤ i → i < (m (12 + 8 * s + a).toNat).toNat → riO m s a i) ↔ soP m s 4 a b c from ⟨fun x => Or.inr (Or.inr (Or.inr (Or.inr ⟨rfl, x⟩))), fun x => by
      rcases x with x | x | x | x | x
      · exact absurd x.1 (by omega)
      · exact absurd x.1 (by omega)
      · exact absurd x.1 (by omega)
      · exact absurd x.1 (by omega)
      · exact x.2⟩)] at k
    simp (disch := omega) only [B127_20, B127_21, k, xcI_some, xcV_some, if_pos, if_neg, xg_in, wr_of, if_true, if_false, or_true, true_or]
    exact if_pos (bI_if rfl)
theorem m178 (hν : ν 140 = m) (hT : yT C m) (hF : ∀ f : Int, 0 ≤ f → f < 8 → yF C m s s f) (s0 : 0 ≤ s) (s1 : s < 64) {t : Int} (t0 : 0 ≤ t) (t1 : t < m 6) : EV sc 178 [vR 139, vI t, vI s] (SK, ν) = some (some (vI (bI (so m t s))), (SK, ν)) := by
  have h6 := hT.1
  obtain ⟨e1, e2, e3, e4, e5, e6⟩ := hT.2.2.2 t t0 t1
  unfold so
  have g4 : m (41556 + t).toNat = m (41556 + t).toNat := rfl
  simp (disch := omega) only [V178, B178_0, hν, xcI_some, xcV_some, if_pos, if_neg, xg_in, wr_of, if_true, if_false, or_true, true_or]
  clear e1 e2 e3 e4 e5
  generalize m (41508 + t).toNat = a at *
  generalize m (41532 + t).toNat = b at *
  generalize hc : m (41556 + t).toNat = c at *
  generalize m (41484 + t).toNat = kd at *
  generalize m (41580 + t).toNat = q at *
  obtain ⟨f1, f2, f3, f4, f5, f6, f7, f8⟩ := e6
  rcases (show kd = 0 ∨ kd = 1 ∨ kd = 2 ∨ kd = 3 ∨ kd = 4 by omega) with g | g | g | g | g <;> subst g
  · obtain ⟨g1, g2, g3, g4⟩ := hF a f3 (by omega)
    have l : ∀ (k j : Nat) (i acc : Int), i = j → j + k = (m (12 + 8 * s + a).toNat).toNat → acc = sumN (vlF m s a) j → AT sc 178 2 [vR 139, vI t, vI s, vI a, vI b, vI acc, vI i, vN] [] (SK, ν) = AT sc 178 5 [vR 139, vI t, vN, vN, vI b, vI (sumN (vlF m s a) (m (12 + 8 * s + a).toNat).toNat), vN, vN] [] (SK, ν) := by
      intro k
      induction k with
      | zero =>
        intro j i acc hi e ha
        rw [B178_2]
        simp (disch := omega) only [m166, hν, B178_3, xcI_some, xcV_some, if_pos, if_neg, xg_in, wr_of, if_true, if_false, or_true, true_or]
        rw [ha, show j = (m (12 + 8 * s + a).toNat).toNat by omega]
      | succ k ih =>
        intro j i acc hi e ha
        have hb := vl_bd hF f3 (by omega : a < 8) (j := j) (by omega)
        obtain ⟨q1, q2, q3, q4, q5, q6⟩ := g4 i (by omega) (by omega)
        have ih1 := ih (j + 1) (i + 1) (acc + m (524 + (320 * s + 40 * a + i)).toNat) (by omega) (by omega) (by unfold sumN vlF; rw [ha, hi]; rfl)
        rw [B178_2]
        simp (disch := omega) only [m166, hν, B178_3, m167, B178_4, ih1, xcI_some, xcV_some, if_pos, if_neg, xg_in, wr_of, if_true, if_false, or_true, true_or]
    have l0 := l (m (12 + 8 * s + a).toNat).toNat 0 0 0 rfl (by omega) rfl
    have hb := vl_bd hF f3 (by omega : a < 8) (j := (m (12 + 8 * s + a).toNat).toNat) (by omega)
    by_cases ok : sumN (vlF m s a) (m (12 + 8 * s + a).toNat).toNat % b = c
    · rw [bI_t (show soP m s 0 a b c from Or.inl ⟨rfl, ok⟩)]
      simp (disch := omega) only [B178_1, B178_5, B178_6, B178_7, l0, hν, hc, ok, xcI_some, xcV_some, if_pos, if_neg, xg_in, wr_of, if_true, if_false, or_true, true_or]
    · rw [bI_f (show ¬ soP m s 0 a b c from fun x => by unfold soP at x; omega)]
      simp (disch := omega) only [B178_1, B178_5, B178_6, B178_7, l0, hν, hc, ok, xcI_some, xcV_some, if_pos, if_neg, xg_in, wr_of, if_true, if_false, or_true, true_or]
  · have k := m177 (sc := sc) (name := a) hν hF s0 s1
    by_cases ok : b ≤ gv m s a
    · rw [bI_t (show soP m s 1 a b c from Or.inr (Or.inl ⟨rfl, ok⟩))]
      simp (disch := omega) only [B178_8, B178_9, B178_10, B178_11, k, xcI_some, xcV_some, if_pos, if_neg, xg_in, wr_of, if_true, if_false, or_true, true_or]
    · rw [bI_f (show ¬ soP m s 1 a b c from fun x => by unfold soP at x; omega)]
      simp (disch := omega) only [B178_8, B178_9, B178_10, B178_11, k, xcI_some, xcV_some, if_pos, if_neg, xg_in, wr_of, if_true, if_false, or_true, true_or]
  · obtain ⟨g1, g2, g3, g4⟩ := hF a f3 (by omega)
    have l : ∀ (k j : Nat) (i : Int), i = j → j + k = (m (12 + 8 * s + a).toNat).toNat → (∀ i : Nat, i < j → knO m s a i) → AT sc 178 13 [vR 139, vN, vI s, vI a, vN, vN, vI i, vN] [] (SK, ν) = some (some (vI (bI (soP m s 2 a b c))), (SK, ν)) := by
      intro k
      induction k with
      | zero =>
        intro j i hi e ha
        rw [B178_13, bI_t (show soP m s 2 a b c from Or.inr (Or.inr (Or.inl ⟨rfl, fun i h => ha i (by omega)⟩)))]
        simp (disch := omega) only [m166, hν, B178_14, B178_19, xcI_some, xcV_some, if_pos, if_neg, xg_in, wr_of, if_true, if_false, or_true, true_or]
      | succ k ih =>
        intro j i hi e ha
        obtain ⟨q1, q2, q3, q4, q5, q6⟩ := g4 i (by omega) (by omega)
        have hn := nm_lo (v := m (524 + (320 * s + 40 * a + i)).toNat) (b := 2000)
        have k11 := m177 (sc := sc) (name := nm (m (524 + (320 * s + 40 * a + i)).toNat) 2000) hν hF s0 s1
        by_cases ok : knO m s a j
        · have ih1 := ih (j + 1) (i + 1) (by omega) (by omega) (fun i' h' => by
            by_cases e2 : i' = j
            · rw [e2]; exact ok
            · exact ha i' (by omega))
          rw [B178_13]
          unfold knO at ok
          rw [← hi] at ok
          by_cases d : nm (m (524 + (320 * s + 40 * a + i)).toNat) 2000 = -1
          · simp (disch := omega) only [m166, hν, B178_14, m167, B178_15, m176, d, B178_16, B178_18, ih1, xcI_some, xcV_some, if_pos, if_neg, xg_in, wr_of, if_true, if_false, or_true, true_or]
          · have d2 := ok d
            simp (disch := omega) only [m166, hν, B178_14, m167, B178_15, m176, B178_16, k11, B178_17, B178_18, ih1, xcI_some, xcV_some, if_pos, if_neg, xg_in, wr_of, if_true, if_false, or_true, true_or]
        · have nso : ¬ soP m s 2 a b c := fun x => by
            rcases x with x | x | x | x | x
            · exact absurd x.1 (by omega)
            · exact absurd x.1 (by omega)
            · exact ok (x.2 j (by omega))
            · exact absurd x.1 (by omega)
            · exact absurd x.1 (by omega)
          rw [B178_13, bI_f nso]
          have d : nm (m (524 + (320 * s + 40 * a + i)).toNat) 2000 ≠ -1 := fun x => ok (fun y => by rw [← hi] at y; exact absurd x y)
          have d2 : gv m s (nm (m (524 + (320 * s + 40 * a + i)).toNat) 2000) = 0 := by
            by_cases x : gv m s (nm (m (524 + (320 * s + 40 * a + i)).toNat) 2000) = 0
            · exact x
            · exact absurd (fun _ => by rw [← hi]; exact x) ok
          rw [d2] at k11
          simp (disch := omega) only [m166, hν, B178_14, m167, B178_15, m176, B178_16, k11, B178_17, xcI_some, xcV_some, if_pos, if_neg, xg_in, wr_of, if_true, if_false, or_true, true_or]
    have l0 := l (m (12 + 8 * s + a).toNat).toNat 0 0 rfl (by omega) (fun i h => absurd h (by omega))
    simp (disch := omega) only [B178_12, l0, xcI_some, xcV_some, if_pos, if_neg, xg_in, wr_of, if_true, if_false, or_true, true_or]
  · obtain ⟨g1, g2, g3, g4⟩ := hF a f3 (by omega)
    by_cases ok : b ≤ m (12 + 8 * s + a).toNat ∧ m (12 + 8 * s + a).toNat ≤ c
    · rw [bI_t (show soP m s 3 a b c from Or.inr (Or.inr (Or.inr (Or.inl ⟨rfl, ok⟩))))]
      simp (disch := omega) only [B178_20, B178_21, B178_22, m166, hν, hc, in_t, xcI_some, xcV_some, if_pos, if_neg, xg_in, wr_of, if_true, if_false, or_true, true_or]
    · rw [bI_f (show ¬ soP m s 3 a b c from fun x => by unfold soP at x; omega)]
      simp (disch := omega) only [B178_20, B178_21, B178_22, m166, hν, hc, in_f, xcI_some, xcV_some, if_pos, if_neg, xg_in, wr_of, if_true, if_false, or_true, true_or]
  · obtain ⟨g1, g2, g3, g4⟩ := hF a f3 (by omega)
    have l : ∀ (k j : Nat) (i : Int), i = j → 1 ≤ j → (m (12 + 8 * s + a).toNat).toNat ≤ j + k → (∀ i : Nat, 1 ≤ i → i < j → riO m s a i) → AT sc 178 24 [vR 139, vN, vI s, vI a, vN, vN, vI i, vN] [] (SK, ν) = some (some (vI (bI (soP m s 4 a b c))), (SK, ν)) := by
      intro k
      induction k with
      | zero =>
        intro j i hi j1 e ha
        rw [B178_24, bI_t (show soP m s 4 a b c from Or.inr (Or.inr (Or.inr (Or.inr ⟨rfl, fun i h0 h => ha i h0 (by omega)⟩))))]
        simp (disch := omega) only [m166, hν, B178_25, B178_29, xcI_some, xcV_some, if_pos, if_neg, xg_in, wr_of, if_true, if_false, or_true, true_or]
      | succ k ih =>
        intro j i hi j1 e ha
        by_cases hj : (m (12 + 8 * s + a).toNat).toNat ≤ j
        · rw [B178_24, bI_t (show soP m s 4 a b c from Or.inr (Or.inr (Or.inr (Or.inr ⟨rfl, fun i h0 h => ha i h0 (by omega)⟩))))]
          simp (disch := omega) only [m166, hν, B178_25, B178_29, xcI_some, xcV_some, if_pos, if_neg, xg_in, wr_of, if_true, if_false, or_true, true_or]
        · obtain ⟨q1, q2, q3, q4, q5, q6⟩ := g4 i (by omega) (by omega)
          obtain ⟨r1, r2, r3, r4, r5, r6⟩ := g4 (i - 1) (by omega) (by omega)
          by_cases ok : riO m s a j
          · have ih1 := ih (j + 1) (i + 1) (by omega) (by omega) (by omega) (fun i' h0 h' => by
              by_cases e2 : i' = j
              · rw [e2]; exact ok
              · exact ha i' h0 (by omega))
            rw [B178_24]
            unfold riO at ok
            rw [← hi] at ok
            simp (disch := omega) only [m166, hν, B178_25, m167, B178_26, B178_27, B178_28, ih1, xcI_some, xcV_some, if_pos, if_neg, xg_in, wr_of, if_true, if_false, or_true, true_or]
          · have nso : ¬ soP m s 4 a b c := fun x => by
              rcases x with x | x | x | x | x
              · exact absurd x.1 (by omega)
              · exact absurd x.1 (by omega)
              · exact absurd x.1 (by omega)
              · exact absurd x.1 (by omega)
              · exact ok (x.2 j j1 (by omega))
            rw [B178_24, bI_f nso]
            unfold riO at ok
            rw [← hi] at ok
            simp (disch := omega) only [m166, hν, B178_25, m167, B178_26, B178_27, xcI_some, xcV_some, if_pos, if_neg, xg_in, wr_of, if_true, if_false, or_true, true_or]
    have l0 := l (m (12 + 8 * s + a).toNat).toNat 1 1 rfl (by omega) (by omega) (fun i h0 h => absurd h (by omega))
    simp (disch := omega) only [B178_23, l0, xcI_some, xcV_some, if_pos, if_neg, xg_in, wr_of, if_true, if_false, or_true, true_or]
theorem op_holds (h : yAll μ) {t s : Int} : yOp sc 137 179 [vI t, vI s] μ := by
  obtain ⟨⟨a1, a2, a3, a4, a5, a6, a7, a8, a9, a10, a11⟩, hk⟩ := id h
  have n6 := a1.1
  have n3 := a1.2.1
  have n5 := a2.2
  have n10 : 0 ≤ μ 140 10 ∧ μ 140 10 ≤ 600 := ⟨a3.1, a3.2.1⟩
  have n7 : 0 ≤ μ 140 7 ∧ μ 140 7 ≤ 60 := ⟨a4.1, a4.2.1⟩
  have n0 : 0 ≤ μ 140 0 ∧ μ 140 0 ≤ 60 ∧ μ 2 3 = μ 140 0 := a6.1
  have n1 : 0 ≤ μ 140 1 ∧ μ 140 1 ≤ 1152 ∧ μ 2 4 = μ 140 1 := a6.2.1
  have n8 : 0 ≤ μ 140 8 ∧ μ 140 8 ≤ 60 := ⟨a7.1, a7.2.1⟩
  have n9 := a8.1
  have c7 := a4.2.2.1
  have c8 := a7.2.2.1
  have c10 := a3.2.2.1
  by_cases ht : 0 ≤ t ∧ t < μ 140 6
  · by_cases hs : 0 ≤ s ∧ s ≤ μ 140 0
    · have hF : ∀ f : Int, 0 ≤ f → f < 8 → yF μ (μ 140) s s f := fun f f0 f1 => a6.2.2 s f hs.1 hs.2 f0 f1
      have k := K127 (sc := sc) a1 hF n1.2.1 hs.1 (by omega) ht.1 ht.2
      refine .same h (bI (so (μ 140) t s)) ?_ fun ν hν => ?_
      · simp (disch := omega) only [V137, B137_0, B137_1, B137_2, B137_3, B137_4, B137_5, B137_6, B137_7, V119, B119_0, isIn_t, k162_t (C := μ), k, n6.2.2, xcI_some, xcV_some, if_pos, if_neg, xg_in, wr_of, if_true, if_false, or_true, true_or]
        rcases bI_01 (P := so (μ 140) t s) with g | g <;> rw [g.2] <;> simp (disch := omega) only [V160, B160_0, B160_1, B160_2, B137_7, xcI_some, xcV_some, if_pos, if_neg, xg_in, wr_of, if_true, if_false, or_true, true_or]
      · have ν0 : up2 ν 139 3 0 140 = μ 140 := by rw [up2_k (by omega)]; exact hν
        have k2 := m178 (sc := sc) ν0 a1 hF hs.1 (by omega) ht.1 ht.2
        simp (disch := omega) only [V179, B179_0, B179_1, B179_2, B179_3, B179_4, mTest_t' (congrFun hν 6), in_t, up2_ne, hν, k2, xcI_some, xcV_some, if_pos, if_neg, xg_in, wr_of, if_true, if_false, or_true, true_or]
        rcases bI_01 (P := so (μ 140) t s) with g | g <;> rw [g.2] <;> simp (disch := omega) only [B179_5, B179_6, B179_7, xcI_some, xcV_some, if_pos, if_neg, xg_in, wr_of, if_true, if_false, or_true, true_or]
    · refine .same h (-2) ?_ fun ν hν => ?_
      · simp (disch := omega) only [V137, B137_0, B137_1, B137_2, B137_3, B137_4, B137_5, B137_6, B137_7, V119, B119_0, isIn_t, k162_f, n6.2.2, xcI_some, xcV_some, if_pos, if_neg, xg_in, wr_of, if_true, if_false, or_true, true_or]
      · simp (disch := omega) only [V179, B179_0, B179_1, B179_2, B179_3, B179_4, B179_5, B179_6, B179_7, mTest_t' (congrFun hν 6), in_f, up2_ne, hν, xcI_some, xcV_some, if_pos, if_neg, xg_in, wr_of, if_true, if_false, or_true, true_or]
  · refine .same h (-2) ?_ fun ν hν => ?_
    · simp (disch := omega) only [V137, B137_0, B137_1, B137_2, B137_3, B137_4, B137_5, B137_6, B137_7, V119, B119_0, isIn_f, n6.2.2, xcI_some, xcV_some, if_pos, if_neg, xg_in, wr_of, if_true, if_false, or_true, true_or]
    · simp (disch := omega) only [V179, B179_0, B179_1, B179_2, B179_3, B179_4, B179_5, B179_6, B179_7, mTest_f' (congrFun hν 6), up2_ne, hν, xcI_some, xcV_some, if_pos, if_neg, xg_in, wr_of, if_true, if_false, or_true, true_or]
end

/-! calls, one by one: pair, queue, a new change -/
/-- as many places as there are things in them -/
theorem pig : ∀ (N n : Nat) (f : Nat → Int), (∀ i, i < n → 0 ≤ f i ∧ f i < N) → (∀ i j, i < n → j < n → f i = f j → i = j) → n ≤ N := by
  intro N
  induction N with
  | zero => intro n f h _; rcases n with _ | n; omega; have := h 0 (by omega); omega
  | succ N ih =>
    intro n f h hi
    by_cases hx : ∃ i, i < n ∧ f i = N
    · obtain ⟨i, i0, e⟩ := hx
      have := ih (n - 1) (fun j => if j = i then f (n - 1) else f j) (fun j hj => by
        by_cases e2 : j = i
        · have g := h (n - 1) (by omega)
          have : f (n - 1) ≠ N := fun e3 => by have := hi i (n - 1) i0 (by omega) (by omega); omega
          simp only [e2, if_true]; omega
        · have g := h j (by omega)
          have : f j ≠ N := fun e3 => by have := hi i j i0 (by omega) (by omega); omega
          simp only [e2, if_false]; omega) (fun j k hj hk e4 => by
        by_cases e2 : j = i <;> by_cases e3 : k = i
        · omega
        · simp only [e2, e3, if_true, if_false] at e4
          have := hi (n - 1) k (by omega) (by omega) e4; omega
        · simp only [e2, e3, if_true, if_false] at e4
          have := hi j (n - 1) (by omega) (by omega) e4; omega
        · simp only [e2, e3, if_false] at e4
          exact hi j k (by omega) (by omega) e4)
      omega
    · have := ih n f (fun i h0 => by
        have g := h i h0
        have : f i ≠ N := fun e => hx ⟨i, h0, e⟩
        omega) hi
      omega
section
variable {sc : Nat × (Nat → Int)} {μ : xM}
theorem yW_lt {C : xM} {m : Nat → Int} (h : yW C m) (h7 : 0 ≤ m 7 ∧ m 7 ≤ 60) {c : Int} (c0 : 0 ≤ c) (c1 : c < m 7) (hc : m (41724 + c).toNat ≠ 1) : m 8 < m 7 := by
  obtain ⟨w1, w2, w3, w4, w5, w6⟩ := h
  have := pig (m 7).toNat ((m 8).toNat + 1) (fun i => if i = (m 8).toNat then c else m (49044 + (i : Int)).toNat) (fun i hi => by
    by_cases e : i = (m 8).toNat
    · simp only [e, if_true]; omega
    · have g := w4 i (by omega) (by omega)
      simp only [e, if_false]; omega) (fun i j hi hj e => by
    by_cases e2 : i = (m 8).toNat <;> by_cases e3 : j = (m 8).toNat
    · omega
    · simp only [e2, e3, if_true, if_false] at e
      have g := w4 j (by omega) (by omega)
      rw [← e] at g
      exact absurd g.2.2.2 hc
    · simp only [e2, e3, if_true, if_false] at e
      have g := w4 i (by omega) (by omega)
      rw [e] at g
      exact absurd g.2.2.2 hc
    · simp only [e2, e3, if_false] at e
      have := w5 i j (by omega) (by omega) (by omega) (by omega) e
      omega)
  omega
theorem op_pair (h : yAll μ) {a b : Int} : yOp sc 141 193 [vI a, vI b] μ := by
  obtain ⟨⟨a1, a2, a3, a4, a5, a6, a7, a8, a9, a10, a11⟩, hk⟩ := id h
  have n6 := a1.1
  have n3 := a1.2.1
  have n5 := a2.2
  have n10 : 0 ≤ μ 140 10 ∧ μ 140 10 ≤ 600 := ⟨a3.1, a3.2.1⟩
  have n7 : 0 ≤ μ 140 7 ∧ μ 140 7 ≤ 60 := ⟨a4.1, a4.2.1⟩
  have n0 : 0 ≤ μ 140 0 ∧ μ 140 0 ≤ 60 ∧ μ 2 3 = μ 140 0 := a6.1
  have n1 : 0 ≤ μ 140 1 ∧ μ 140 1 ≤ 1152 ∧ μ 2 4 = μ 140 1 := a6.2.1
  have n8 : 0 ≤ μ 140 8 ∧ μ 140 8 ≤ 60 := ⟨a7.1, a7.2.1⟩
  have n9 := a8.1
  have c7 := a4.2.2.1
  have c8 := a7.2.2.1
  have c10 := a3.2.2.1
  by_cases ha : 0 ≤ a ∧ a < μ 140 7
  · by_cases hb : 0 ≤ b ∧ b < μ 140 7
    · by_cases hab : a = b
      · refine .same h (-2) ?_ fun ν hν => ?_
        · simp (disch := omega) only [V141, B141_0, B141_1, B141_2, B141_3, B141_4, B141_5, B141_6, B141_7, B141_8, B141_9, cChange_t, xcI_some, xcV_some, if_pos, if_neg, xg_in, wr_of, if_true, if_false, or_true, true_or]
        · simp (disch := omega) only [V193, B193_0, B193_1, B193_2, B193_3, B193_4, B193_5, B193_6, mChange_t' (congrFun hν 7), xcI_some, xcV_some, if_pos, if_neg, xg_in, wr_of, if_true, if_false, or_true, true_or]
      · have ga := (a4.2.2.2 a ha.1 ha.2).1
        have gb := (a4.2.2.2 b hb.1 hb.2).1
        by_cases hs : μ 140 (41724 + a).toNat = 0 ∧ μ 140 (41724 + b).toNat = 0 ∧ μ 140 (41964 + a).toNat = -1 ∧ μ 140 (41964 + b).toNat = -1
        · refine .mk h 1 (up2 (up2 μ 18 a.toNat b) 18 b.toNat a) (up1 (up1 (μ 140) (41964 + a).toNat b) (41964 + b).toNat a) ?_ ((frC.up (by omega)).tr (.up (by omega))) (fun ν hν => ⟨up2 (up2 (up2 ν 139 3 0) 140 (41964 + a).toNat b) 140 (41964 + b).toNat a, ?_, ?_, ?_⟩) ?_
          · simp (disch := omega) only [V141, B141_0, B141_1, B141_2, B141_3, B141_4, B141_5, B141_6, B141_7, B141_8, B141_9, V35, B35_0, B35_1, B35_2, B35_3, B35_4, V36, B36_0, B36_1, B36_2, cChange_t, G_7, G_9, G_11, G_13, G_15, G_17, G_19, G_21, G_24, G_26, G_28, G_30, G_32, G_34, G_36, G_39, G_42, G_44, G_46, G_48, G_50, G_52, G_55, G_57, G_60, G_62, G_64, G_66, G_68, S_7, S_9, S_11, S_13, S_15, S_17, S_19, S_21, S_24, S_26, S_28, S_30, S_32, S_34, S_36, S_39, S_42, S_44, S_46, S_48, S_50, S_52, S_55, S_57, S_60, S_62, S_64, S_66, S_68, gt_in, st_in, ga.2.1, gb.2.1, ga.2.2.2.2.2.1, gb.2.2.2.2.2.1, xcI_some, xcV_some, if_pos, if_neg, xg_in, wr_of, if_true, if_false, or_true, true_or]
          · simp (disch := omega) only [V193, B193_0, B193_1, B193_2, B193_3, B193_4, B193_5, B193_6, mChange_t' (congrFun hν 7), up2_ne, hν, xcI_some, xcV_some, if_pos, if_neg, xg_in, wr_of, if_true, if_false, or_true, true_or]
          · simp (disch := omega) only [up2_row, up2_k, hν]
          · exact frM.th.tr ((frM.up (by omega)).tr (frM.up (by omega)))
          · skip
            have e : ∀ i : Nat, (i ≠ (41964 + a).toNat ∧ i ≠ (41964 + b).toNat) → (up1 (up1 (μ 140) (41964 + a).toNat b) (41964 + b).toNat a) i = μ 140 i := fun i hi => by simp (disch := omega) only [up1_ne]
            have eC : ∀ k i : Nat, (k ≠ 18 ∨ (i ≠ a.toNat ∧ i ≠ b.toNat)) → (up2 (up2 μ 18 a.toNat b) 18 b.toNat a) k i = μ k i := fun k i hi => by simp (disch := omega) only [up2_ne]
            have pa : up1 (up1 (μ 140) (41964 + a).toNat b) (41964 + b).toNat a (41964 + a).toNat = b := by simp (disch := omega) only [up1_ne, up1_eq]
            have pb : up1 (up1 (μ 140) (41964 + a).toNat b) (41964 + b).toNat a (41964 + b).toNat = a := up1_eq
            have qa : up2 (up2 μ 18 a.toNat b) 18 b.toNat a 18 a.toNat = b := by simp (disch := omega) only [up2_ne, up2_eq]
            have qb : up2 (up2 μ 18 a.toNat b) 18 b.toNat a 18 b.toNat = a := up2_eq
            refine ⟨yT_fr a1 (fun k i hk => eC k i (by unfold dT at hk; omega)) (fun i hi => e i (by unfold aT at hi; omega)), yL_fr a2 (eC 1 6 (by omega)) (e 5 (by omega)), yG_fr a3 (fun k i hk => eC k i (by omega)) (fun i hi => e i (by omega)), ?_, yE_fr a5 a4 (fun k i hk => eC k i (by unfold dE at hk; omega)) (fun i _ _ => eC 5 i (by omega)) (by rw [e 1 (by omega)]; exact Int.le_refl _) (fun i hi => e i (by unfold aE at hi; omega)), yB_fr a6 ⟨eC 2 3 (by omega), eC 2 4 (by omega)⟩ ⟨e 0 (by omega), e 1 (by omega)⟩ (fun s _ _ k i hk => eC k i (by unfold dS at hk; omega)) (fun i _ _ => eC 5 i (by omega)) (fun s _ _ i hi => e i (by unfold aS at hi; omega)), yW_fr a7 ⟨a4.1, a4.2.1⟩ (fun k i hk => eC k i (by omega)) (fun i hi => e i (by omega)), ?_, yO_fr a9 a4 a6 a5 ⟨e 0 (by omega), e 7 (by omega)⟩ (fun s _ _ i hi => e i (by unfold aS at hi; omega)) (fun i hi => e i (by omega)), yM_fr a10 a4 (fun i hi => e i (by omega)), yN_fr a11 a4 (fun i hi => e i (by omega)) (fun u u0 u1 h => by rw [e (41724 + u).toNat (by omega)]; exact h) (fun u u0 u1 h => by rw [e (41724 + u).toNat (by omega)] at h; exact h)⟩
            · unfold yA
              rw [e 7 (by omega), eC 6 9 (by omega)]
              refine ⟨a4.1, a4.2.1, a4.2.2.1, fun c c0 c1 => ?_⟩
              have g := a4.2.2.2 c c0 c1
              have r1 := e (41604 + c).toNat (by omega)
              have r2 := e (41664 + c).toNat (by omega)
              have r3 := e (41724 + c).toNat (by omega)
              have r4 := e (41784 + c).toNat (by omega)
              have r5 := e (41844 + c).toNat (by omega)
              have r6 := e (41904 + c).toNat (by omega)
              have r8 := e (42024 + c).toNat (by omega)
              rw [r1, r2, r3, r4, r5, r6, r8, eC 8 c.toNat (by omega), eC 10 c.toNat (by omega), eC 12 c.toNat (by omega), eC 14 c.toNat (by omega), eC 16 c.toNat (by omega), eC 20 c.toNat (by omega), eC 22 c.toNat (by omega)]
              by_cases ea : c = a
              · subst ea
                rw [pa, qa, pb]
                exact ⟨⟨g.1.1, g.1.2.1, g.1.2.2.1, g.1.2.2.2.1, g.1.2.2.2.2.1, rfl, g.1.2.2.2.2.2.2⟩, g.2.1, g.2.2.1, Or.inr ⟨hb.1, hb.2, by omega, rfl⟩⟩
              · by_cases eb : c = b
                · subst eb
                  rw [pb, qb, pa]
                  exact ⟨⟨g.1.1, g.1.2.1, g.1.2.2.1, g.1.2.2.2.1, g.1.2.2.2.2.1, rfl, g.1.2.2.2.2.2.2⟩, g.2.1, g.2.2.1, Or.inr ⟨ha.1, ha.2, by omega, rfl⟩⟩
                · rw [e (41964 + c).toNat (by omega), eC 18 c.toNat (by omega)]
                  refine ⟨g.1, g.2.1, g.2.2.1, ?_⟩
                  rcases g.2.2.2 with g4 | ⟨g4, g5, g6, g7⟩
                  · exact Or.inl g4
                  · right
                    have na : μ 140 (41964 + c).toNat ≠ a := fun x => by rw [x] at g7; omega
                    have nb : μ 140 (41964 + c).toNat ≠ b := fun x => by rw [x] at g7; omega
                    rw [e (41964 + μ 140 (41964 + c).toNat).toNat (by omega)]
                    exact ⟨g4, g5, g6, g7⟩
            · refine yP_fr a8 (by rw [e 7 (by omega)]; exact Int.le_refl _) (fun k i hk => eC k i (by omega)) (fun i hi => e i (by omega)) (fun u u0 u1 hu => ?_) (fun u u0 u1 h => by rw [e (41724 + u).toNat (by omega)]; exact h)
              have na : u ≠ a := fun x => by subst x; exact hu hs.1
              have nb : u ≠ b := fun x => by subst x; exact hu hs.2.1
              exact e (41964 + u).toNat (by omega)
        · refine .same h (-3) ?_ fun ν hν => ?_
          · by_cases h1 : μ 140 (41724 + a).toNat = 0
            · by_cases h2 : μ 140 (41964 + a).toNat = -1
              · by_cases h3 : μ 140 (41724 + b).toNat = 0
                · have h4 : μ 140 (41964 + b).toNat ≠ -1 := fun h4 => hs ⟨h1, h3, h2, h4⟩
                  simp (disch := omega) only [V141, B141_0, B141_1, B141_2, B141_3, B141_4, B141_5, B141_6, B141_7, B141_8, B141_9, V35, B35_0, B35_1, B35_2, B35_3, B35_4, cChange_t, G_7, G_9, G_11, G_13, G_15, G_17, G_19, G_21, G_24, G_26, G_28, G_30, G_32, G_34, G_36, G_39, G_42, G_44, G_46, G_48, G_50, G_52, G_55, G_57, G_60, G_62, G_64, G_66, G_68, gt_in, ga.2.1, gb.2.1, ga.2.2.2.2.2.1, gb.2.2.2.2.2.1, xcI_some, xcV_some, if_pos, if_neg, xg_in, wr_of, if_true, if_false, or_true, true_or]
                · simp (disch := omega) only [V141, B141_0, B141_1, B141_2, B141_3, B141_4, B141_5, B141_6, B141_7, B141_8, B141_9, V35, B35_0, B35_1, B35_2, B35_3, B35_4, cChange_t, G_7, G_9, G_11, G_13, G_15, G_17, G_19, G_21, G_24, G_26, G_28, G_30, G_32, G_34, G_36, G_39, G_42, G_44, G_46, G_48, G_50, G_52, G_55, G_57, G_60, G_62, G_64, G_66, G_68, gt_in, ga.2.1, gb.2.1, ga.2.2.2.2.2.1, gb.2.2.2.2.2.1, xcI_some, xcV_some, if_pos, if_neg, xg_in, wr_of, if_true, if_false, or_true, true_or]
              · simp (disch := omega) only [V141, B141_0, B141_1, B141_2, B141_3, B141_4, B141_5, B141_6, B141_7, B141_8, B141_9, V35, B35_0, B35_1, B35_2, B35_3, B35_4, cChange_t, G_7, G_9, G_11, G_13, G_15, G_17, G_19, G_21, G_24, G_26, G_28, G_30, G_32, G_34, G_36, G_39, G_42, G_44, G_46, G_48, G_50, G_52, G_55, G_57, G_60, G_62, G_64, G_66, G_68, gt_in, ga.2.1, gb.2.1, ga.2.2.2.2.2.1, gb.2.2.2.2.2.1, xcI_some, xcV_some, if_pos, if_neg, xg_in, wr_of, if_true, if_false, or_true, true_or]
            · simp (disch := omega) only [V141, B141_0, B141_1, B141_2, B141_3, B141_4, B141_5, B141_6, B141_7, B141_8, B141_9, V35, B35_0, B35_1, B35_2, B35_3, B35_4, cChange_t, G_7, G_9, G_11, G_13, G_15, G_17, G_19, G_21, G_24, G_26, G_28, G_30, G_32, G_34, G_36, G_39, G_42, G_44, G_46, G_48, G_50, G_52, G_55, G_57, G_60, G_62, G_64, G_66, G_68, gt_in, ga.2.1, gb.2.1, ga.2.2.2.2.2.1, gb.2.2.2.2.2.1, xcI_some, xcV_some, if_pos, if_neg, xg_in, wr_of, if_true, if_false, or_true, true_or]
          · by_cases h1 : μ 140 (41724 + a).toNat = 0
            · by_cases h3 : μ 140 (41724 + b).toNat = 0
              · by_cases h2 : μ 140 (41964 + a).toNat = -1
                · have h4 : μ 140 (41964 + b).toNat ≠ -1 := fun h4 => hs ⟨h1, h3, h2, h4⟩
                  simp (disch := omega) only [V193, B193_0, B193_1, B193_2, B193_3, B193_4, B193_5, B193_6, mChange_t' (congrFun hν 7), up2_ne, hν, xcI_some, xcV_some, if_pos, if_neg, xg_in, wr_of, if_true, if_false, or_true, true_or]
                · simp (disch := omega) only [V193, B193_0, B193_1, B193_2, B193_3, B193_4, B193_5, B193_6, mChange_t' (congrFun hν 7), up2_ne, hν, xcI_some, xcV_some, if_pos, if_neg, xg_in, wr_of, if_true, if_false, or_true, true_or]
              · simp (disch := omega) only [V193, B193_0, B193_1, B193_2, B193_3, B193_4, B193_5, B193_6, mChange_t' (congrFun hν 7), up2_ne, hν, xcI_some, xcV_some, if_pos, if_neg, xg_in, wr_of, if_true, if_false, or_true, true_or]
            · simp (disch := omega) only [V193, B193_0, B193_1, B193_2, B193_3, B193_4, B193_5, B193_6, mChange_t' (congrFun hν 7), up2_ne, hν, xcI_some, xcV_some, if_pos, if_neg, xg_in, wr_of, if_true, if_false, or_true, true_or]
    · refine .same h (-2) ?_ fun ν hν => ?_
      · simp (disch := omega) only [V141, B141_0, B141_1, B141_2, B141_3, B141_4, B141_5, B141_6, B141_7, B141_8, B141_9, cChange_t, cChange_f, xcI_some, xcV_some, if_pos, if_neg, xg_in, wr_of, if_true, if_false, or_true, true_or]
      · simp (disch := omega) only [V193, B193_0, B193_1, B193_2, B193_3, B193_4, B193_5, B193_6, mChange_t' (congrFun hν 7), mChange_f' (congrFun hν 7), xcI_some, xcV_some, if_pos, if_neg, xg_in, wr_of, if_true, if_false, or_true, true_or]
  · refine .same h (-2) ?_ fun ν hν => ?_
    · simp (disch := omega) only [V141, B141_0, B141_1, B141_2, B141_3, B141_4, B141_5, B141_6, B141_7, B141_8, B141_9, cChange_f, xcI_some, xcV_some, if_pos, if_neg, xg_in, wr_of, if_true, if_false, or_true, true_or]
    · simp (disch := omega) only [V193, B193_0, B193_1, B193_2, B193_3, B193_4, B193_5, B193_6, mChange_f' (congrFun hν 7), xcI_some, xcV_some, if_pos, if_neg, xg_in, wr_of, if_true, if_false, or_true, true_or]
theorem op_queue (h : yAll μ) {c : Int} : yOp sc 144 199 [vI c] μ := by
  obtain ⟨⟨a1, a2, a3, a4, a5, a6, a7, a8, a9, a10, a11⟩, hk⟩ := id h
  have n6 := a1.1
  have n3 := a1.2.1
  have n5 := a2.2
  have n10 : 0 ≤ μ 140 10 ∧ μ 140 10 ≤ 600 := ⟨a3.1, a3.2.1⟩
  have n7 : 0 ≤ μ 140 7 ∧ μ 140 7 ≤ 60 := ⟨a4.1, a4.2.1⟩
  have n0 : 0 ≤ μ 140 0 ∧ μ 140 0 ≤ 60 ∧ μ 2 3 = μ 140 0 := a6.1
  have n1 : 0 ≤ μ 140 1 ∧ μ 140 1 ≤ 1152 ∧ μ 2 4 = μ 140 1 := a6.2.1
  have n8 : 0 ≤ μ 140 8 ∧ μ 140 8 ≤ 60 := ⟨a7.1, a7.2.1⟩
  have n9 := a8.1
  have c7 := a4.2.2.1
  have c8 := a7.2.2.1
  have c10 := a3.2.2.1
  by_cases hc : 0 ≤ c ∧ c < μ 140 7
  · have g := (a4.2.2.2 c hc.1 hc.2).1
    by_cases hs : μ 140 (41724 + c).toNat = 0
    · by_cases hn : μ 140 (41904 + c).toNat = 0
      · refine .same h (-3) ?_ fun ν hν => ?_
        · simp (disch := omega) only [V144, B144_0, B144_1, B144_2, B144_3, B144_4, B144_5, B144_6, B144_7, B144_8, cChange_t, q27 a4 hc.1 hc.2, q33 a4 hc.1 hc.2, xcI_some, xcV_some, if_pos, if_neg, xg_in, wr_of, if_true, if_false, or_true, true_or]
        · simp (disch := omega) only [V199, B199_0, B199_1, B199_2, B199_3, B199_4, mChange_t' (congrFun hν 7), up2_ne, hν, xcI_some, xcV_some, if_pos, if_neg, xg_in, wr_of, if_true, if_false, or_true, true_or]
      · have n87 := yW_lt a7 n7 hc.1 hc.2 (by omega)
        refine .mk h (μ 140 8) (up2 (up2 (up2 μ 10 c.toNat 1) 40 (μ 140 8).toNat c) 38 1 (μ 140 8 + 1)) (up1 (up1 (up1 (μ 140) (41724 + c).toNat 1) (49044 + μ 140 8).toNat c) 8 (μ 140 8 + 1)) ?_ (((frC.up (by omega)).tr (.up (by omega))).tr (.up (by omega))) (fun ν hν => ⟨up2 (up2 (up2 (up2 ν 139 3 0) 140 (41724 + c).toNat 1) 140 (49044 + μ 140 8).toNat c) 140 8 (μ 140 8 + 1), ?_, ?_, ?_⟩) ?_
        · simp (disch := omega) only [V144, B144_0, B144_1, B144_2, B144_3, B144_4, B144_5, B144_6, B144_7, B144_8, V28, B28_0, B28_1, V83, B83_0, B83_1, cChange_t, q27 a4 hc.1 hc.2, q33 a4 hc.1 hc.2, S_7, S_9, S_11, S_13, S_15, S_17, S_19, S_21, S_24, S_26, S_28, S_30, S_32, S_34, S_36, S_39, S_42, S_44, S_46, S_48, S_50, S_52, S_55, S_57, S_60, S_62, S_64, S_66, S_68, st_in, up2_ne, up2_eq, c8, xcI_some, xcV_some, if_pos, if_neg, xg_in, wr_of, if_true, if_false, or_true, true_or]
          rw [show μ 140 8 + 1 - 1 = μ 140 8 by omega]
        · simp (disch := omega) only [V199, B199_0, B199_1, B199_2, B199_3, B199_4, mChange_t' (congrFun hν 7), up2_ne, up2_eq, hν, xcI_some, xcV_some, if_pos, if_neg, xg_in, wr_of, if_true, if_false, or_true, true_or]
          rw [show μ 140 8 + 1 - 1 = μ 140 8 by omega]
        · simp (disch := omega) only [up2_row, up2_k, hν]
        · exact frM.th.tr ((frM.up (by omega)).tr ((frM.up (by omega)).tr (frM.up (by omega))))
        · skip
          have e : ∀ i : Nat, (i ≠ (41724 + c).toNat ∧ i ≠ (49044 + μ 140 8).toNat ∧ i ≠ 8) → (up1 (up1 (up1 (μ 140) (41724 + c).toNat 1) (49044 + μ 140 8).toNat c) 8 (μ 140 8 + 1)) i = μ 140 i := fun i hi => by simp (disch := omega) only [up1_ne]
          have eC : ∀ k i : Nat, ((k ≠ 10 ∨ i ≠ c.toNat) ∧ (k ≠ 40 ∨ i ≠ (μ 140 8).toNat) ∧ (k ≠ 38 ∨ i ≠ 1)) → (up2 (up2 (up2 μ 10 c.toNat 1) 40 (μ 140 8).toNat c) 38 1 (μ 140 8 + 1)) k i = μ k i := fun k i hi => by simp (disch := omega) only [up2_ne]
          have pc : up1 (up1 (up1 (μ 140) (41724 + c).toNat 1) (49044 + μ 140 8).toNat c) 8 (μ 140 8 + 1) (41724 + c).toNat = 1 := by simp (disch := omega) only [up1_ne, up1_eq]
          have p8 : up1 (up1 (up1 (μ 140) (41724 + c).toNat 1) (49044 + μ 140 8).toNat c) 8 (μ 140 8 + 1) 8 = μ 140 8 + 1 := up1_eq
          have pl : up1 (up1 (up1 (μ 140) (41724 + c).toNat 1) (49044 + μ 140 8).toNat c) 8 (μ 140 8 + 1) (49044 + μ 140 8).toNat = c := by simp (disch := omega) only [up1_ne, up1_eq]
          have qc : up2 (up2 (up2 μ 10 c.toNat 1) 40 (μ 140 8).toNat c) 38 1 (μ 140 8 + 1) 10 c.toNat = 1 := by simp (disch := omega) only [up2_ne, up2_eq]
          have ql : up2 (up2 (up2 μ 10 c.toNat 1) 40 (μ 140 8).toNat c) 38 1 (μ 140 8 + 1) 40 (μ 140 8).toNat = c := by simp (disch := omega) only [up2_ne, up2_eq]
          refine ⟨yT_fr a1 (fun k i hk => eC k i (by unfold dT at hk; omega)) (fun i hi => e i (by unfold aT at hi; omega)), yL_fr a2 (eC 1 6 (by omega)) (e 5 (by omega)), yG_fr a3 (fun k i hk => eC k i (by omega)) (fun i hi => e i (by omega)), ?_, yE_fr a5 a4 (fun k i hk => eC k i (by unfold dE at hk; omega)) (fun i _ _ => eC 5 i (by omega)) (by rw [e 1 (by omega)]; exact Int.le_refl _) (fun i hi => e i (by unfold aE at hi; omega)), yB_fr a6 ⟨eC 2 3 (by omega), eC 2 4 (by omega)⟩ ⟨e 0 (by omega), e 1 (by omega)⟩ (fun s _ _ k i hk => eC k i (by unfold dS at hk; omega)) (fun i _ _ => eC 5 i (by omega)) (fun s _ _ i hi => e i (by unfold aS at hi; omega)), ?_, ?_, yO_fr a9 a4 a6 a5 ⟨e 0 (by omega), e 7 (by omega)⟩ (fun s _ _ i hi => e i (by unfold aS at hi; omega)) (fun i hi => e i (by omega)), yM_fr a10 a4 (fun i hi => e i (by omega)), ?_⟩
          · exact yA_set a4 (Or.inr (Or.inl ⟨rfl, rfl⟩)) hc.1 hc.2 qc pc (fun k i hk hi => eC k i (by unfold dA at hk; omega)) (fun i hk hi => e i (by unfold aA at hk; omega))
          · obtain ⟨w1, w2, w3, w4, w5, w6⟩ := a7
            have nc : ∀ k : Int, 0 ≤ k → k < μ 140 8 → μ 140 (49044 + k).toNat ≠ c := fun k k0 k1 e2 => by
              have := (w4 k k0 k1).2.2.2
              rw [e2] at this
              omega
            unfold yW
            rw [p8, e 7 (by omega), up2_eq]
            refine ⟨by omega, by omega, rfl, fun k k0 k1 => ?_, fun j k j0 j1 k0 k1 e2 => ?_, fun d d0 d1 e2 => ?_⟩
            · by_cases ek : k = μ 140 8
              · subst ek
                rw [pl, ql, pc]
                exact ⟨rfl, hc.1, hc.2, rfl⟩
              · have w := w4 k k0 (by omega)
                have := nc k k0 (by omega)
                rw [e (49044 + k).toNat (by omega), eC 40 k.toNat (by omega), e (41724 + μ 140 (49044 + k).toNat).toNat (by omega)]
                exact w
            · by_cases ej : j = μ 140 8 <;> by_cases ek : k = μ 140 8
              · omega
              · rw [ej, pl, e (49044 + k).toNat (by omega)] at e2
                exact absurd e2.symm (nc k k0 (by omega))
              · rw [ek, pl, e (49044 + j).toNat (by omega)] at e2
                exact absurd e2 (nc j j0 (by omega))
              · rw [e (49044 + j).toNat (by omega), e (49044 + k).toNat (by omega)] at e2
                exact w5 j k j0 (by omega) k0 (by omega) e2
            · by_cases ed : d = c
              · exact ⟨μ 140 8, by omega, by omega, by rw [pl, ed]⟩
              · rw [e (41724 + d).toNat (by omega)] at e2
                obtain ⟨k, k0, k1, ek⟩ := w6 d d0 d1 e2
                exact ⟨k, k0, by omega, by rw [e (49044 + k).toNat (by omega)]; exact ek⟩
          · refine yP_fr a8 (by rw [e 7 (by omega)]; exact Int.le_refl _) (fun k i hk => eC k i (by omega)) (fun i hi => e i (by omega)) (fun u u0 u1 _ => e (41964 + u).toNat (by omega)) (fun u u0 u1 h => ?_)
            by_cases eu : u = c
            · rw [eu, pc]; omega
            · rw [e (41724 + u).toNat (by omega)]; exact h
          · refine yN_fr a11 a4 (fun i hi => e i (by omega)) (fun u u0 u1 h => ?_) (fun u u0 u1 h => ?_)
            · have eu : u ≠ c := fun eu => by rw [eu] at h; omega
              rw [e (41724 + u).toNat (by omega)]; exact h
            · by_cases eu : u = c
              · rw [eu]; exact Or.inl hs
              · rw [e (41724 + u).toNat (by omega)] at h; exact h
    · refine .same h (-3) ?_ fun ν hν => ?_
      · simp (disch := omega) only [V144, B144_0, B144_1, B144_2, B144_3, B144_4, B144_5, B144_6, B144_7, B144_8, cChange_t, q27 a4 hc.1 hc.2, xcI_some, xcV_some, if_pos, if_neg, xg_in, wr_of, if_true, if_false, or_true, true_or]
      · simp (disch := omega) only [V199, B199_0, B199_1, B199_2, B199_3, B199_4, mChange_t' (congrFun hν 7), up2_ne, hν, xcI_some, xcV_some, if_pos, if_neg, xg_in, wr_of, if_true, if_false, or_true, true_or]
  · refine .same h (-2) ?_ fun ν hν => ?_
    · simp (disch := omega) only [V144, B144_0, B144_1, B144_2, B144_3, B144_4, B144_5, B144_6, B144_7, B144_8, cChange_f, xcI_some, xcV_some, if_pos, if_neg, xg_in, wr_of, if_true, if_false, or_true, true_or]
    · simp (disch := omega) only [V199, B199_0, B199_1, B199_2, B199_3, B199_4, mChange_f' (congrFun hν 7), xcI_some, xcV_some, if_pos, if_neg, xg_in, wr_of, if_true, if_false, or_true, true_or]
end

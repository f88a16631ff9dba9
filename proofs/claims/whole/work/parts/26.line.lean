/-! line -/
theorem mkL_succ {m : Nat → Int} {a n : Int} (h : 0 ≤ n) : mkL m a (n + 1) = mkL m a n ++ [m (a + n).toNat] := by
  unfold mkL
  rw [show (n + 1).toNat = n.toNat + 1 by omega, List.range_succ, List.map_append]
  simp only [List.map_cons, List.map_nil]
  rw [show ((n.toNat : Nat) : Int) = n by omega]
theorem mem_mkL {m : Nat → Int} {a n x : Int} (h : x ∈ mkL m a n) : ∃ k : Int, 0 ≤ k ∧ k < n ∧ m (a + k).toNat = x := by
  unfold mkL at h
  obtain ⟨k, hk, e⟩ := List.mem_map.mp h
  exact ⟨k, by omega, by have := List.mem_range.mp hk; omega, e⟩
theorem sumN_one {f g : Nat → Int} {d : Int} : ∀ n j, j < n → (∀ i, i < n → i ≠ j → g i = f i) → g j = f j + d → sumN g n = sumN f n + d := by
  intro n
  induction n with
  | zero => intro j h; omega
  | succ n ih =>
    intro j h h1 h2
    unfold sumN
    by_cases e : j = n
    · subst e
      rw [h2, sumN_fr (f := g) (g := f) j (fun k hk => h1 k (by omega) (by omega))]
      omega
    · rw [ih j (by omega) (fun i i0 i1 => h1 i (by omega) i1) h2, h1 n (by omega) (by omega)]
      omega
theorem sumN_bd {f : Nat → Int} {b b' : Int} {j : Nat} : ∀ n, j < n → (∀ i, i < n → f i ≤ b) → f j ≤ b' → sumN f n ≤ b * (n - 1) + b' := by
  intro n
  induction n with
  | zero => intro h; omega
  | succ n ih =>
    intro h h1 h2
    unfold sumN
    have t : ∀ k, k ≤ n → sumN f k ≤ b * k := by
      intro k
      induction k with
      | zero => intro _; simp [sumN]
      | succ k ih2 =>
        intro hk
        unfold sumN
        have := ih2 (by omega)
        have := h1 k (by omega)
        rw [show ((k + 1 : Nat) : Int) = (k : Int) + 1 by omega, Int.mul_add]
        omega
    rw [show ((n + 1 : Nat) : Int) - 1 = (n : Int) by omega]
    by_cases e : j = n
    · subst e
      have := t j (by omega)
      omega
    · have := ih (by omega) (fun i hi => h1 i (by omega)) h2
      have g := h1 n (by omega)
      rw [Int.mul_sub] at this
      omega
theorem above (g : Int → Int) : ∀ l : List Int, ∃ B : Int, ∀ a ∈ l, g a < B := by
  intro l
  induction l with
  | nil => exact ⟨0, fun a h => absurd h List.not_mem_nil⟩
  | cons x l ih =>
    obtain ⟨B, hB⟩ := ih
    refine ⟨if B ≤ g x then g x + 1 else B, fun a h => ?_⟩
    rcases List.mem_cons.mp h with e | e
    · subst e
      split <;> omega
    · have := hB a e
      split <;> omega
section
variable {sc : Nat × (Nat → Int)} {μ : xM}
theorem K4 {f x n : Int} (f0 : 0 ≤ f) (f1 : f < 8) (hn : μ 4 f.toNat = n) (n0 : 0 ≤ n) (n1 : n < 24) : EV sc 4 [vR 2, vI f, vI x] (SK, μ) = some (none, (SK, up2 (up2 μ 4 f.toNat (n + 1)) 3 (f * 24 + n).toNat x)) := by
  have e1 : (0 : Int) * 8 + f = f := by omega
  have hn' : μ 4 (0 * 8 + f).toNat = n := by rw [e1]; exact hn
  have k5 : EV sc 5 [vR 2, vI 0, vI f] (SK, μ) = some (some (vI n), (SK, μ)) := by rw [K5 (by omega) (by omega) f0 f1, hn']
  have k13 : EV sc 13 [vR 2, vI 0, vI f, vI n, vI 0, vI 1] (SK, μ) = some (none, (SK, up2 μ 4 f.toNat (n + 1))) := by
    rw [K13 (by omega) (by omega) f0 f1 hn' (by omega) n0 (by omega) (by omega) (by omega) (by omega) (by omega), show (n - n - 0).toNat = 0 by omega, cp2_zero, e1, show n + 1 + (n - n - 0) = n + 1 by omega]
  have k12 : EV sc 12 [vR 2, vI 0, vI f, vI n, vI x] (SK, up2 μ 4 f.toNat (n + 1)) = some (none, (SK, up2 (up2 μ 4 f.toNat (n + 1)) 3 (f * 24 + n).toNat x)) := by
    rw [K12 (by omega) (by omega) f0 f1 n0 n1, e1]
  simp (disch := omega) only [V4, B4_0, B4_1, B4_2, B4_3, k5, k13, k12, xcI_some, xcV_some, if_pos, if_neg, xg_in, wr_of, if_true, if_false, or_true, true_or]
theorem op_line (h : yAll μ) {f v : Int} : yOp sc 133 170 [vI f, vI v] μ := by
  obtain ⟨⟨a1, a2, a3, a4, a5, a6, a7, a8, a9, a10, a11⟩, hk⟩ := id h
  have n6 := a1.1
  have n3 := a1.2.1
  have n5 := a2.2
  have n10 : 0 ≤ μ 140 10 ∧ μ 140 10 ≤ 600 := ⟨a3.1, a3.2.1⟩
  have n7 : 0 ≤ μ 140 7 ∧ μ 140 7 ≤ 60 := ⟨a4.1, a4.2.1⟩
  have n0 : 0 ≤ μ 140 0 ∧ μ 140 0 ≤ 60 ∧ μ 2 3 = μ 140 0 := a6.1
  have n1 : 0 ≤ μ 140 1 ∧ μ 140 1 ≤ 1152 ∧ μ 2 4 = μ 140 1 := a6.2.1
  have n8 : 0 ≤ μ 140 8 ∧ μ 140 8 ≤ 60 := ⟨a7.1, a7.2.1⟩
  have n9 := a8.1
  have c7 := a4.2.2.1
  have c8 := a7.2.2.1
  have c10 := a3.2.2.1
  by_cases hf : 0 ≤ f ∧ f < 8
  · by_cases hv : 0 ≤ v ∧ v ≤ 9999
    · by_cases hc : 0 < μ 140 7
      · refine .same h (-3) ?_ fun ν hν => ?_
        · simp (disch := omega) only [V133, B133_0, B133_1, B133_2, B133_3, B133_4, B133_5, B133_6, B133_7, B133_8, B133_9, V23, B23_0, isIn_t, xcI_some, xcV_some, if_pos, if_neg, xg_in, wr_of, if_true, if_false, or_true, true_or]
        · simp (disch := omega) only [V170, B170_0, B170_1, B170_2, B170_3, B170_4, B170_5, B170_6, B170_7, B170_8, B170_9, B170_10, B170_11, B170_12, B170_13, in_t, isFile_t, up2_ne, hν, xcI_some, xcV_some, if_pos, if_neg, xg_in, wr_of, if_true, if_false, or_true, true_or]
      · have e7 : μ 140 7 = 0 := by omega
        have e0 : μ 140 0 = 0 := by
          by_cases e : μ 140 0 = 0
          · exact e
          · obtain ⟨c, c0, c1, _⟩ := a11.1 1 (by omega) (by omega)
            omega
        obtain ⟨g1, g2, g3, g4⟩ := a6.2.2 0 f (by omega) (by omega) hf.1 hf.2
        by_cases hn : μ 140 (12 + 8 * 0 + f).toNat = 24
        · refine .same h (-4) ?_ fun ν hν => ?_
          · simp (disch := omega) only [V133, B133_0, B133_1, B133_2, B133_3, B133_4, B133_5, B133_6, B133_7, B133_8, B133_9, V23, B23_0, isIn_t, K5, g1, xcI_some, xcV_some, if_pos, if_neg, xg_in, wr_of, if_true, if_false, or_true, true_or]
          · simp (disch := omega) only [V170, B170_0, B170_1, B170_2, B170_3, B170_4, B170_5, B170_6, B170_7, B170_8, B170_9, B170_10, B170_11, B170_12, B170_13, in_t, isFile_t, m166, up2_ne, hν, xcI_some, xcV_some, if_pos, if_neg, xg_in, wr_of, if_true, if_false, or_true, true_or]
        · have hs : μ 140 1 ≤ 192 := by
            have := a10.2
            rw [e7] at this
            simp only [Int.toNat_zero, sumN] at this
            omega
          have gn : μ 140 (12 + f).toNat = μ 140 (12 + 8 * 0 + f).toNat := by rw [show 12 + 8 * 0 + f = 12 + f by omega]
          rw [← gn] at g1 g2 g3 g4 hn
          rw [show (0 : Int) * 8 + f = f by omega] at g1
          generalize hN : μ 140 (12 + f).toNat = n at *
          refine .mk h (μ 140 1 + 1) (up2 (up2 (up2 (up2 μ 2 4 (μ 140 1 + 1)) 5 (μ 140 1 + 1).toNat v) 4 f.toNat (n + 1)) 3 (f * 24 + n).toNat (μ 140 1 + 1))
            (up1 (up1 (up1 (up1 (μ 140) 1 (μ 140 1 + 1)) (524 + (40 * f + n)).toNat v) (21004 + (40 * f + n)).toNat (μ 140 1 + 1)) (12 + f).toNat (n + 1)) ?_ ((((frC.up (by omega)).tr (.up (by omega))).tr (.up (by omega))).tr (.up (by omega))) (fun ν hν => ⟨up2 (up2 (up2 (up2 (up2 ν 139 3 0) 140 1 (μ 140 1 + 1)) 140 (524 + (40 * f + n)).toNat v) 140 (21004 + (40 * f + n)).toNat (μ 140 1 + 1)) 140 (12 + f).toNat (n + 1), ?_, ?_, ?_⟩) ?_
          · have k3 : EV sc 3 [vR 2, vI v] (SK, μ) = some (some (vI (μ 140 1 + 1)), (SK, up2 (up2 μ 2 4 (μ 140 1 + 1)) 5 (μ 140 1 + 1).toNat v)) := by
              rw [K3 (by omega) (by omega), n1.2.2]
            have k4 : EV sc 4 [vR 2, vI f, vI (μ 140 1 + 1)] (SK, up2 (up2 μ 2 4 (μ 140 1 + 1)) 5 (μ 140 1 + 1).toNat v) = some (none, (SK, up2 (up2 (up2 (up2 μ 2 4 (μ 140 1 + 1)) 5 (μ 140 1 + 1).toNat v) 4 f.toNat (n + 1)) 3 (f * 24 + n).toNat (μ 140 1 + 1))) :=
              K4 hf.1 hf.2 (by simp (disch := omega) only [up2_ne]; exact g1) g2 (by omega)
            have g1' : μ 4 (0 * 8 + f).toNat = n := by rw [show (0 : Int) * 8 + f = f by omega]; exact g1
            simp (disch := omega) only [V133, B133_0, B133_1, B133_2, B133_3, B133_4, B133_5, B133_6, B133_7, B133_8, B133_9, V23, B23_0, isIn_t, K5, g1', k3, k4, xcI_some, xcV_some, if_pos, if_neg, xg_in, wr_of, if_true, if_false, or_true, true_or]
          · have m7 : ∀ i : Int, EV sc 166 [vR 139, vI 0, vI f] (SK, up2 ν 139 3 0) = some (some (vI n), (SK, up2 ν 139 3 0)) := fun _ => by
              rw [m166 (by omega) (by omega) hf.1 hf.2, up2_ne (by omega), hν, show 12 + 8 * 0 + f = 12 + f by omega, hN]
            have c1 : (320 * 0 + 40 * f + n : Int) = 40 * f + n := by omega
            simp (disch := omega) only [V170, B170_0, B170_1, B170_2, B170_3, B170_4, B170_5, B170_6, B170_7, B170_8, B170_9, B170_10, B170_11, B170_12, B170_13, in_t, isFile_t, m7 0, m167, c1, up2_ne, up2_eq, hν, hN, xcI_some, xcV_some, if_pos, if_neg, xg_in, wr_of, if_true, if_false, or_true, true_or]
          · simp (disch := omega) only [up2_row, up2_k, hν]
          · exact frM.th.tr ((frM.up (by omega)).tr ((frM.up (by omega)).tr ((frM.up (by omega)).tr (frM.up (by omega)))))
          · skip
            have e : ∀ i : Nat, (i ≠ 1 ∧ i ≠ (524 + (40 * f + n)).toNat ∧ i ≠ (21004 + (40 * f + n)).toNat ∧ i ≠ (12 + f).toNat) → (up1 (up1 (up1 (up1 (μ 140) 1 (μ 140 1 + 1)) (524 + (40 * f + n)).toNat v) (21004 + (40 * f + n)).toNat (μ 140 1 + 1)) (12 + f).toNat (n + 1)) i = μ 140 i := fun i hi => by simp (disch := omega) only [up1_ne]
            have eC : ∀ k i : Nat, ((k ≠ 2 ∨ i ≠ 4) ∧ (k ≠ 5 ∨ i ≠ (μ 140 1 + 1).toNat) ∧ (k ≠ 4 ∨ i ≠ f.toNat) ∧ (k ≠ 3 ∨ i ≠ (f * 24 + n).toNat)) → (up2 (up2 (up2 (up2 μ 2 4 (μ 140 1 + 1)) 5 (μ 140 1 + 1).toNat v) 4 f.toNat (n + 1)) 3 (f * 24 + n).toNat (μ 140 1 + 1)) k i = μ k i := fun k i hi => by simp (disch := omega) only [up2_ne]
            have p1 : (up1 (up1 (up1 (up1 (μ 140) 1 (μ 140 1 + 1)) (524 + (40 * f + n)).toNat v) (21004 + (40 * f + n)).toNat (μ 140 1 + 1)) (12 + f).toNat (n + 1)) 1 = μ 140 1 + 1 := by simp (disch := omega) only [up1_ne, up1_eq]
            have p2 : (up1 (up1 (up1 (up1 (μ 140) 1 (μ 140 1 + 1)) (524 + (40 * f + n)).toNat v) (21004 + (40 * f + n)).toNat (μ 140 1 + 1)) (12 + f).toNat (n + 1)) (12 + f).toNat = n + 1 := up1_eq
            have p3 : (up1 (up1 (up1 (up1 (μ 140) 1 (μ 140 1 + 1)) (524 + (40 * f + n)).toNat v) (21004 + (40 * f + n)).toNat (μ 140 1 + 1)) (12 + f).toNat (n + 1)) (21004 + (40 * f + n)).toNat = μ 140 1 + 1 := by simp (disch := omega) only [up1_ne, up1_eq]
            have p4 : (up1 (up1 (up1 (up1 (μ 140) 1 (μ 140 1 + 1)) (524 + (40 * f + n)).toNat v) (21004 + (40 * f + n)).toNat (μ 140 1 + 1)) (12 + f).toNat (n + 1)) (524 + (40 * f + n)).toNat = v := by simp (disch := omega) only [up1_ne, up1_eq]
            have q1 : (up2 (up2 (up2 (up2 μ 2 4 (μ 140 1 + 1)) 5 (μ 140 1 + 1).toNat v) 4 f.toNat (n + 1)) 3 (f * 24 + n).toNat (μ 140 1 + 1)) 2 4 = μ 140 1 + 1 := by simp (disch := omega) only [up2_ne, up2_eq]
            have q2 : (up2 (up2 (up2 (up2 μ 2 4 (μ 140 1 + 1)) 5 (μ 140 1 + 1).toNat v) 4 f.toNat (n + 1)) 3 (f * 24 + n).toNat (μ 140 1 + 1)) 5 (μ 140 1 + 1).toNat = v := by simp (disch := omega) only [up2_ne, up2_eq]
            have q3 : (up2 (up2 (up2 (up2 μ 2 4 (μ 140 1 + 1)) 5 (μ 140 1 + 1).toNat v) 4 f.toNat (n + 1)) 3 (f * 24 + n).toNat (μ 140 1 + 1)) 4 f.toNat = n + 1 := by simp (disch := omega) only [up2_ne, up2_eq]
            have q4 : (up2 (up2 (up2 (up2 μ 2 4 (μ 140 1 + 1)) 5 (μ 140 1 + 1).toNat v) 4 f.toNat (n + 1)) 3 (f * 24 + n).toNat (μ 140 1 + 1)) 3 (f * 24 + n).toNat = μ 140 1 + 1 := up2_eq
            have fx : ∀ i : Int, (320 * 0 + 40 * f + i : Int) = 40 * f + i := fun i => by omega
            have fy : ∀ i : Int, ((0 * 8 + f) * 24 + i : Int) = f * 24 + i := fun i => by omega
            have fz : (0 * 8 + f : Int) = f := by omega
            have fw : (12 + 8 * 0 + f : Int) = 12 + f := by omega
            refine ⟨yT_fr a1 (fun k i hk => eC k i (by unfold dT at hk; omega)) (fun i hi => e i (by unfold aT at hi; omega)), yL_fr a2 (eC 1 6 (by omega)) (e 5 (by omega)), yG_fr a3 (fun k i hk => eC k i (by omega)) (fun i hi => e i (by omega)), yA_fr a4 (fun k i hk => eC k i (by unfold dA at hk; omega)) (fun i hi => e i (by unfold aA at hi; omega)), ?_, ?_, yW_fr a7 ⟨a4.1, a4.2.1⟩ (fun k i hk => eC k i (by omega)) (fun i hi => e i (by omega)), yP_fr a8 (by rw [e 7 (by omega)]; exact Int.le_refl _) (fun k i hk => eC k i (by omega)) (fun i hi => e i (by omega)) (fun u u0 u1 _ => e (41964 + u).toNat (by omega)) (fun u u0 u1 h => by rw [e (41724 + u).toNat (by omega)]; exact h), ?_, ?_, yN_fr a11 a4 (fun i hi => e i (by omega)) (fun u u0 u1 h => by rw [e (41724 + u).toNat (by omega)]; exact h) (fun u u0 u1 h => by rw [e (41724 + u).toNat (by omega)] at h; exact h)⟩
            · intro c c0 c1
              rw [e 7 (by omega)] at c1
              omega
            · unfold yB
              rw [e 0 (by omega), p1, eC 2 3 (by omega), q1]
              refine ⟨a6.1, ⟨by omega, by omega, rfl⟩, fun s f' s0 s1 f0 f1 => ?_⟩
              rw [e0] at s1
              have es : s = 0 := by omega
              subst es
              by_cases ef : f' = f
              · subst ef
                unfold yF
                rw [fw, fz, p2, q3, p1]
                refine ⟨rfl, by omega, by omega, fun i i0 i1 => ?_⟩
                rw [fx]
                by_cases ei : i = n
                · subst ei
                  rw [p3, p4, q4, q2]
                  exact ⟨rfl, by omega, by omega, rfl, by omega, by omega⟩
                · have g5 := g4 i i0 (by omega)
                  rw [fx, fy] at g5
                  rw [e (21004 + (40 * f' + i)).toNat (by omega), e (524 + (40 * f' + i)).toNat (by omega), eC 3 (f' * 24 + i).toNat (by omega), eC 5 (μ 140 (21004 + (40 * f' + i)).toNat).toNat (by omega)]
                  exact ⟨g5.1, g5.2.1, by omega, g5.2.2.2⟩
              · exact yFf_fr (a6.2.2 0 f' (by omega) (by omega) f0 f1) (fun k i hk => eC k i (by unfold dF at hk; omega)) (fun i i0 i1 => eC 5 i (by omega)) (by rw [p1]; omega) (fun i hi => e i (by unfold aF at hi; omega)) (by omega) (by omega) (by omega)
            · obtain ⟨ρ, o1, o2⟩ := a9
              obtain ⟨B, hB⟩ := above (ρ f) (mkL (μ 140) (21004 + 40 * f) n)
              refine ⟨fun f' x => if f' = f ∧ x = μ 140 1 + 1 then B else ρ f' x, fun s f' s0 s1 f0 f1 => ?_, fun c k c0 c1 => ?_⟩
              · rw [e 0 (by omega), e0] at s1
                have es : s = 0 := by omega
                subst es
                have o3 := o1 0 f' (by omega) (by omega) f0 f1
                have ea : (21004 + (320 * 0 + 40 * f') : Int) = 21004 + 40 * f' := by omega
                have eb : (12 + 8 * 0 + f' : Int) = 12 + f' := by omega
                rw [ea, eb] at o3 ⊢
                by_cases ef : f' = f
                · subst ef
                  rw [hN] at o3
                  rw [p2, mkL_succ g2, show (21004 + 40 * f' + n : Int) = 21004 + (40 * f' + n) by omega, p3, mkL_fr (m := μ 140) (fun k k0 k1 => e _ (by omega))]
                  have mem : ∀ x ∈ mkL (μ 140) (21004 + 40 * f') n, x ≠ μ 140 1 + 1 := fun x hx => by
                    obtain ⟨k, k0, k1, ek⟩ := mem_mkL hx
                    have g5 := g4 k k0 k1
                    rw [fx, show (21004 + (40 * f' + k) : Int) = 21004 + 40 * f' + k by omega, ek] at g5
                    omega
                  refine List.pairwise_append.mpr ⟨?_, List.pairwise_singleton _ _, fun a ha b hb => ?_⟩
                  · refine List.Pairwise.imp_of_mem (fun {a b} ha hb hab => ?_) o3
                    have m1 := mem a ha
                    have m2 := mem b hb
                    simp only [m1, m2, and_false, if_false]
                    exact hab
                  · have m1 := mem a ha
                    have eb2 := List.mem_singleton.mp hb
                    subst eb2
                    simp only [m1, and_false, if_false, and_self, if_true]
                    exact hB a ha
                · rw [e (12 + f').toNat (by omega), mkL_fr (m := μ 140) (fun k k0 k1 => e _ (by have := (a6.2.2 0 f' (by omega) (by omega) f0 f1).2.2.1; rw [eb] at this; omega))]
                  refine List.Pairwise.imp (fun {a b} hab => ?_) o3
                  simp only [ef, false_and, if_false]
                  exact hab
              · rw [e 7 (by omega)] at c1
                omega
            · unfold yM
              have hsum : sumN (fun i => (up1 (up1 (up1 (up1 (μ 140) 1 (μ 140 1 + 1)) (524 + (40 * f + n)).toNat v) (21004 + (40 * f + n)).toNat (μ 140 1 + 1)) (12 + f).toNat (n + 1)) (12 + i)) 8 = sumN (fun i => μ 140 (12 + i)) 8 + 1 := by
                refine sumN_one 8 f.toNat (by omega) (fun i i0 i1 => e _ (by omega)) ?_
                rw [show 12 + f.toNat = (12 + f).toNat by omega, p2, hN]
              rw [e 7 (by omega), p1, hsum]
              refine ⟨fun _ => by rw [a10.1 e7], ?_⟩
              have hbd := sumN_bd (b := 24) (f := fun i => μ 140 (12 + i)) (j := f.toNat) (b' := 23) 8 (by omega) (fun i hi => by
                have t := (a6.2.2 0 (i : Int) (by omega) (by omega) (by omega) (by omega)).2.2.1
                rw [show (12 + 8 * 0 + (i : Int)).toNat = 12 + i by omega] at t
                exact t) (by rw [show 12 + f.toNat = (12 + f).toNat by omega, hN]; omega)
              have t := a10.1 e7
              rw [e7]
              simp only [Int.toNat_zero]
              rw [show sumN (fun c => (up1 (up1 (up1 (up1 (μ 140) 1 (μ 140 1 + 1)) (524 + (40 * f + n)).toNat v) (21004 + (40 * f + n)).toNat (μ 140 1 + 1)) (12 + f).toNat (n + 1)) (41904 + c)) 0 = 0 from rfl]
              omega
    · refine .same h (-2) ?_ fun ν hν => ?_
      · rcases (show v < 0 ∨ 9999 < v by omega) with g | g <;> simp (disch := omega) only [V133, B133_0, B133_1, B133_2, B133_3, B133_4, B133_5, B133_6, B133_7, B133_8, B133_9, isIn_t, xcI_some, xcV_some, if_pos, if_neg, xg_in, wr_of, if_true, if_false, or_true, true_or]
      · simp (disch := omega) only [V170, B170_0, B170_1, B170_2, B170_3, B170_4, B170_5, B170_6, B170_7, B170_8, B170_9, B170_10, B170_11, B170_12, B170_13, in_f, isFile_t, up2_ne, hν, xcI_some, xcV_some, if_pos, if_neg, xg_in, wr_of, if_true, if_false, or_true, true_or]
  · refine .same h (-2) ?_ fun ν hν => ?_
    · simp (disch := omega) only [V133, B133_0, B133_1, B133_2, B133_3, B133_4, B133_5, B133_6, B133_7, B133_8, B133_9, isIn_f, xcI_some, xcV_some, if_pos, if_neg, xg_in, wr_of, if_true, if_false, or_true, true_or]
    · simp (disch := omega) only [V170, B170_0, B170_1, B170_2, B170_3, B170_4, B170_5, B170_6, B170_7, B170_8, B170_9, B170_10, B170_11, B170_12, B170_13, isFile_f, up2_ne, hν, xcI_some, xcV_some, if_pos, if_neg, xg_in, wr_of, if_true, if_false, or_true, true_or]
end

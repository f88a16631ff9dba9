/-! line -/
theorem mkL_succ {m : Nat → Int} {a n : Int} (h : 0 ≤ n) : mkL m a (n + 1) = mkL m a n ++ [m (a + n).toNat] := by
  unfold mkL
  rw [show (n + 1).toNat = n.toNat + 1 by omega, List.range_succ, List.map_append]
  simp only [List.map_cons, List.map_nil]
  rw [show ((n.toNat : Nat) : Int) = n by omega]
theorem mem_mkL {m : Nat → Int} {a n x : Int} (h : x ∈ mkL m a n) : ∃ k : Int, 0 ≤ k ∧ k < n ∧ m (a + k).toNat = x := by
  unfold mkL at h
  obtain ⟨k, hk, e⟩ := List.mem_map.mp h
  exact ⟨k, by omega, by have := List.mem_range.mp hk; omega, e⟩
theorem above (g : Int → Int) : ∀ l : List Int, ∃ B : Int, ∀ a ∈ l, g a < B := by
  intro l
  induction l with
  | nil => exact ⟨0, fun a h => absurd h List.not_mem_nil⟩
  | cons x l ih =>
    obtain ⟨B, hB⟩ := ih
    refine ⟨if B ≤ g x then g x + 1 else B, fun a h => ?_⟩
    rcases List.mem_cons.mp h with e | e
    · subst e
      split <;> omega
    · have := hB a e
      split <;> omega
section
variable {sc : Nat × (Nat → Int)} {μ : xM}
theorem K4 {f x n : Int} (f0 : 0 ≤ f) (f1 : f < 8) (hn : μ 4 f.toNat = n) (n0 : 0 ≤ n) (n1 : n < 24) : EV sc 4 [vR 2, vI f, vI x] (SK, μ) = some (none, (SK, up2 (up2 μ 4 f.toNat (n + 1)) 3 (f * 24 + n).toNat x)) := by
  have e1 : (0 : Int) * 8 + f = f := by omega
  have hn' : μ 4 (0 * 8 + f).toNat = n := by rw [e1]; exact hn
  have k5 : EV sc 5 [vR 2, vI 0, vI f] (SK, μ) = some (some (vI n), (SK, μ)) := by rw [K5 (by omega) (by omega) f0 f1, hn']
  have k13 : EV sc 13 [vR 2, vI 0, vI f, vI n, vI 0, vI 1] (SK, μ) = some (none, (SK, up2 μ 4 f.toNat (n + 1))) := by
    rw [K13 (by omega) (by omega) f0 f1 hn' (by omega) n0 (by omega) (by omega) (by omega) (by omega) (by omega), show (n - n - 0).toNat = 0 by omega, cp2_zero, e1, show n + 1 + (n - n - 0) = n + 1 by omega]
  have k12 : EV sc 12 [vR 2, vI 0, vI f, vI n, vI x] (SK, up2 μ 4 f.toNat (n + 1)) = some (none, (SK, up2 (up2 μ 4 f.toNat (n + 1)) 3 (f * 24 + n).toNat x)) := by
    rw [K12 (by omega) (by omega) f0 f1 n0 n1, e1]
  simp (disch := omega) only [V4, B4_0, B4_1, B4_2, B4_3, k5, k13, k12, xcI_some, xcV_some, if_pos, if_neg, xg_in, wr_of, if_true, if_false, or_true, true_or]
theorem op_line (h : yAll μ) {f v : Int} : yOp sc 133 170 [vI f, vI v] μ := by
  obtain ⟨⟨a1, a2, a3, a4, a5, a6, a7, a8, a9, a10, a11⟩, hk⟩ := id h
  have n6 := a1.1
  have n3 := a1.2.1
  have n5 := a2.2
  have n10 : 0 ≤ μ 140 10 ∧ μ 140 10 ≤ 600 := ⟨a3.1, a3.2.1⟩
  have n7 : 0 ≤ μ 140 7 ∧ μ 140 7 ≤ 60 := ⟨a4.1, a4.2.1⟩
  have n0 : 0 ≤ μ 140 0 ∧ μ 140 0 ≤ 60 ∧ μ 2 3 = μ 140 0 := a6.1
  have n1 : 0 ≤ μ 140 1 ∧ μ 140 1 ≤ 1152 ∧ μ 2 4 = μ 140 1 := a6.2.1
  have n8 : 0 ≤ μ 140 8 ∧ μ 140 8 ≤ 60 := ⟨a7.1, a7.2.1⟩
  have n9 := a8.1
  have c7 := a4.2.2.1
  have c8 := a7.2.2.1
  have c10 := a3.2.2.1
  by_cases hf : 0 ≤ f ∧ f < 8
  · by_cases hv : 0 ≤ v ∧ v ≤ 9999
    · by_cases hc : 0 < μ 140 7
      · refine .same h (-3) ?_ fun ν hν => ?_
        · simp (disch := omega) only [V133, B133_0, B133_1, B133_2, B133_3, B133_4, B133_5, B133_6, B133_7, B133_8, B133_9, V23, B23_0, isIn_t, xcI_some, xcV_some, if_pos, if_neg, xg_in, wr_of, if_true, if_false, or_true, true_or]
        · simp (disch := omega) only [V170, B170_0, B170_1, B170_2, B170_3, B170_4, B170_5, B170_6, B170_7, B170_8, B170_9, B170_10, B170_11, B170_12, B170_13, in_t, isFile_t, up2_ne, hν, xcI_some, xcV_some, if_pos, if_neg, xg_in, wr_of, if_true, if_false, or_true, true_or]
      · have e7 : μ 140 7 = 0 := by omega
        have e0 : μ 140 0 = 0 := by
          by_cases e : μ 140 0 = 0
          · exact e
          · obtain ⟨c, c0, c1, _⟩ := a11 1 (by omega) (by omega)
            omega
        obtain ⟨g1, g2, g3, g4⟩ := a6.2.2 0 f (by omega) (by omega) hf.1 hf.2
        by_cases hn : μ 140 (12 + 8 * 0 + f).toNat = 24
        · refine .same h (-4) ?_ fun ν hν => ?_
          · simp (disch := omega) only [V133, B133_0, B133_1, B133_2, B133_3, B133_4, B133_5, B133_6, B133_7, B133_8, B133_9, V23, B23_0, isIn_t, K5, g1, xcI_some, xcV_some, if_pos, if_neg, xg_in, wr_of, if_true, if_false, or_true, true_or]
          · simp (disch := omega) only [V170, B170_0, B170_1, B170_2, B170_3, B170_4, B170_5, B170_6, B170_7, B170_8, B170_9, B170_10, B170_11, B170_12, B170_13, in_t, isFile_t, m166, up2_ne, hν, xcI_some, xcV_some, if_pos, if_neg, xg_in, wr_of, if_true, if_false, or_true, true_or]
        · have hs : μ 140 1 ≤ 192 := by
            have := a10.2
            rw [e7] at this
            simp only [Int.toNat_zero, sumN] at this
            omega
          have gn : μ 140 (12 + f).toNat = μ 140 (12 + 8 * 0 + f).toNat := by rw [show 12 + 8 * 0 + f = 12 + f by omega]
          rw [← gn] at g1 g2 g3 g4 hn
          rw [show (0 : Int) * 8 + f = f by omega] at g1
          generalize hN : μ 140 (12 + f).toNat = n at *
          refine .mk h (μ 140 1 + 1) (up2 (up2 (up2 (up2 μ 2 4 (μ 140 1 + 1)) 5 (μ 140 1 + 1).toNat v) 4 f.toNat (n + 1)) 3 (f * 24 + n).toNat (μ 140 1 + 1))
            (up1 (up1 (up1 (up1 (μ 140) 1 (μ 140 1 + 1)) (524 + (40 * f + n)).toNat v) (21004 + (40 * f + n)).toNat (μ 140 1 + 1)) (12 + f).toNat (n + 1)) ?_ ((((frC.up (by omega)).tr (.up (by omega))).tr (.up (by omega))).tr (.up (by omega))) (fun ν hν => ⟨up2 (up2 (up2 (up2 (up2 ν 139 3 0) 140 1 (μ 140 1 + 1)) 140 (524 + (40 * f + n)).toNat v) 140 (21004 + (40 * f + n)).toNat (μ 140 1 + 1)) 140 (12 + f).toNat (n + 1), ?_, ?_, ?_⟩) ?_
          · have k3 : EV sc 3 [vR 2, vI v] (SK, μ) = some (some (vI (μ 140 1 + 1)), (SK, up2 (up2 μ 2 4 (μ 140 1 + 1)) 5 (μ 140 1 + 1).toNat v)) := by
              rw [K3 (by omega) (by omega), n1.2.2]
            have k4 : EV sc 4 [vR 2, vI f, vI (μ 140 1 + 1)] (SK, up2 (up2 μ 2 4 (μ 140 1 + 1)) 5 (μ 140 1 + 1).toNat v) = some (none, (SK, up2 (up2 (up2 (up2 μ 2 4 (μ 140 1 + 1)) 5 (μ 140 1 + 1).toNat v) 4 f.toNat (n + 1)) 3 (f * 24 + n).toNat (μ 140 1 + 1))) :=
              K4 hf.1 hf.2 (by simp (disch := omega) only [up2_ne]; exact g1) g2 (by omega)
            have g1' : μ 4 (0 * 8 + f).toNat = n := by rw [show (0 : Int) * 8 + f = f by omega]; exact g1
            simp (disch := omega) only [V133, B133_0, B133_1, B133_2, B133_3, B133_4, B133_5, B133_6, B133_7, B133_8, B133_9, V23, B23_0, isIn_t, K5, g1', k3, k4, xcI_some, xcV_some, if_pos, if_neg, xg_in, wr_of, if_true, if_false, or_true, true_or]
          · have m7 : ∀ i : Int, EV sc 166 [vR 139, vI 0, vI f] (SK, up2 ν 139 3 0) = some (some (vI n), (SK, up2 ν 139 3 0)) := fun _ => by
              rw [m166 (by omega) (by omega) hf.1 hf.2, up2_ne (by omega), hν, show 12 + 8 * 0 + f = 12 + f by omega, hN]
            have c1 : (320 * 0 + 40 * f + n : Int) = 40 * f + n := by omega
            simp (disch := omega) only [V170, B170_0, B170_1, B170_2, B170_3, B170_4, B170_5, B170_6, B170_7, B170_8, B170_9, B170_10, B170_11, B170_12, B170_13, in_t, isFile_t, m7 0, m167, c1, up2_ne, up2_eq, hν, hN, xcI_some, xcV_some, if_pos, if_neg, xg_in, wr_of, if_true, if_false, or_true, true_or]
          · simp (disch := omega) only [up2_row, up2_k, hν]
          · exact frM.th.tr ((frM.up (by omega)).tr ((frM.up (by omega)).tr ((frM.up (by omega)).tr (frM.up (by omega)))))
          · sorry
    · refine .same h (-2) ?_ fun ν hν => ?_
      · rcases (show v < 0 ∨ 9999 < v by omega) with g | g <;> simp (disch := omega) only [V133, B133_0, B133_1, B133_2, B133_3, B133_4, B133_5, B133_6, B133_7, B133_8, B133_9, isIn_t, xcI_some, xcV_some, if_pos, if_neg, xg_in, wr_of, if_true, if_false, or_true, true_or]
      · simp (disch := omega) only [V170, B170_0, B170_1, B170_2, B170_3, B170_4, B170_5, B170_6, B170_7, B170_8, B170_9, B170_10, B170_11, B170_12, B170_13, in_f, isFile_t, up2_ne, hν, xcI_some, xcV_some, if_pos, if_neg, xg_in, wr_of, if_true, if_false, or_true, true_or]
  · refine .same h (-2) ?_ fun ν hν => ?_
    · simp (disch := omega) only [V133, B133_0, B133_1, B133_2, B133_3, B133_4, B133_5, B133_6, B133_7, B133_8, B133_9, isIn_f, xcI_some, xcV_some, if_pos, if_neg, xg_in, wr_of, if_true, if_false, or_true, true_or]
    · simp (disch := omega) only [V170, B170_0, B170_1, B170_2, B170_3, B170_4, B170_5, B170_6, B170_7, B170_8, B170_9, B170_10, B170_11, B170_12, B170_13, isFile_f, up2_ne, hν, xcI_some, xcV_some, if_pos, if_neg, xg_in, wr_of, if_true, if_false, or_true, true_or]
end

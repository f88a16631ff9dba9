/-! frames of the whole, small methods -/
theorem yO_fr {C : xM} {m m' : Nat → Int} (h : yO m) (hA : yA C m) (hB : yB C m) (hE : yE C m) (hm0 : m' 0 = m 0 ∧ m' 7 = m 7) (hm : ∀ s : Int, 0 ≤ s → s ≤ m 0 → ∀ i, aS s i → m' i = m i) (hm2 : ∀ i : Nat, ((41904 ≤ i ∧ i < 41964) ∨ (42084 ≤ i ∧ i < 49044)) → m' i = m i) : yO m' := by
  obtain ⟨ρ, h1, h2⟩ := h
  refine ⟨ρ, fun s f s0 s1 f0 f1 => ?_, fun c k c0 c1 k0 k1 => ?_⟩
  · rw [hm0.1] at s1
    have hF := hB.2.2 s f s0 s1 f0 f1
    rw [hm s s0 s1 (12 + 8 * s + f).toNat (by unfold aS; omega), mkL_fr (m := m) (fun k k0 k1 => hm s s0 s1 _ (by have := hF.2.2.1; unfold aS; omega))]
    exact h1 s f s0 s1 f0 f1
  · rw [hm0.2] at c1
    have h7 := hA.2.1
    have hne := (hA.2.2.2 c c0 c1).2.1
    rw [hm2 (41904 + c).toNat (by omega)] at k1
    have he := ((hE c c0 c1).1 k k0 k1).2.1
    rw [hm2 (42084 + (4 * c + k)).toNat (by omega), hm2 (42804 + (4 * c + k)).toNat (by omega), hm2 (43044 + (4 * c + k)).toNat (by omega), hm2 (42324 + (4 * c + k)).toNat (by omega), hm2 (42564 + (4 * c + k)).toNat (by omega),
      mkL_fr (m := m) (fun j j0 j1 => hm2 _ (by omega)), mkL_fr (m := m) (fun j j0 j1 => hm2 _ (by omega))]
    exact h2 c k c0 c1 k0 k1
theorem yK_fr {C C' : xM} {m : Nat → Int} (h : yK C m) (hC : ∀ k i : Nat, 1 ≤ k → k ≤ 69 → C' k i = C k i) : yK C' m := by
  obtain ⟨a1, a2, a3, a4, a5, a6, a7, a8, a9, a10, a11⟩ := h
  exact ⟨yT_fr a1 (fun k i hk => hC k i (by unfold dT at hk; omega) (by unfold dT at hk; omega)) (fun _ _ => rfl), yL_fr a2 (hC 1 6 (by omega) (by omega)) rfl, yG_fr a3 (fun k i hk => hC k i (by omega) (by omega)) (fun _ _ => rfl),
    yA_fr a4 (fun k i hk => hC k i (by unfold dA at hk; omega) (by unfold dA at hk; omega)) (fun _ _ => rfl), yE_fr a5 a4 (fun k i hk => hC k i (by unfold dE at hk; omega) (by unfold dE at hk; omega)) (fun i _ _ => hC 5 i (by omega) (by omega)) (Int.le_refl _) (fun _ _ => rfl),
    yB_fr a6 ⟨hC 2 3 (by omega) (by omega), hC 2 4 (by omega) (by omega)⟩ ⟨rfl, rfl⟩ (fun s _ _ k i hk => hC k i (by unfold dS at hk; omega) (by unfold dS at hk; omega)) (fun i _ _ => hC 5 i (by omega) (by omega)) (fun _ _ _ _ _ => rfl),
    yW_fr a7 ⟨a4.1, a4.2.1⟩ (fun k i hk => hC k i (by omega) (by omega)) (fun _ _ => rfl), yP_fr a8 (Int.le_refl _) (fun k i hk => hC k i (by omega) (by omega)) (fun _ _ => rfl) (fun _ _ _ _ => rfl) (fun _ _ _ h => h), a9, a10, a11⟩
/-- what a call on the class leaves alone: what is kept, and the reference; what a call on the reference leaves alone -/
def frC (μ μ' : xM) : Prop := ∀ k : Nat, (k = 0 ∨ 70 ≤ k) → μ' k = μ k
def frM (μ μ' : xM) : Prop := (∀ k : Nat, k < 139 ∨ k = 141 → μ' k = μ k) ∧ μ' 139 2 = μ 139 2
theorem frC.rf {μ : xM} : frC μ μ := fun _ _ => rfl
theorem frM.rf {μ : xM} : frM μ μ := ⟨fun _ _ => rfl, rfl⟩
theorem frC.tr {μ μ1 μ2 : xM} (h : frC μ μ1) (h2 : frC μ1 μ2) : frC μ μ2 := fun k hk => (h2 k hk).trans (h k hk)
theorem frM.tr {μ μ1 μ2 : xM} (h : frM μ μ1) (h2 : frM μ1 μ2) : frM μ μ2 := ⟨fun k hk => (h2.1 k hk).trans (h.1 k hk), h2.2.trans h.2⟩
theorem frC.up {μ : xM} {k i : Nat} {v : Int} (h : 1 ≤ k ∧ k ≤ 69) : frC μ (up2 μ k i v) := fun j hj => up2_k (by omega)
theorem frM.up {μ : xM} {k i : Nat} {v : Int} (h : k = 140 ∨ k = 142 ∨ k = 143) : frM μ (up2 μ k i v) := ⟨fun j hj => up2_k (by omega), up2_ne (by omega)⟩
theorem frM.th {μ : xM} {v : Int} : frM μ (up2 μ 139 3 v) := ⟨fun j hj => up2_k (by omega), up2_ne (by omega)⟩
theorem yAll_mk {μ μ1 μ2 : xM} (h : yAll μ) (h1 : frC μ μ1) (h2 : frM μ1 μ2) (hK : yK μ2 (μ2 140)) : yAll μ2 := by
  have e0 : μ2 0 = μ 0 := (h2.1 0 (by omega)).trans (h1 0 (by omega))
  have e139 : μ2 139 2 = μ 139 2 := h2.2.trans (by rw [h1 139 (by omega)])
  have e141 : μ2 141 = μ 141 := (h2.1 141 (by omega)).trans (h1 141 (by omega))
  refine ⟨hK, ?_⟩
  rw [e0, e139, e141]
  rcases h.2 with g | ⟨g1, g2, g3⟩
  · exact Or.inl g
  · right
    refine ⟨g1, g2, yK_fr g3 fun k i k0 k1 => ?_⟩
    show μ2 (k + 69) i = μ (k + 69) i
    rw [h2.1 (k + 69) (by omega), h1 (k + 69) (by omega)]
section
variable {sc : Nat × (Nat → Int)} {μ : xM}
-- small questions
theorem in_t {x lo hi : Int} (h0 : lo ≤ x) (h1 : x ≤ hi) : EV sc 164 [vL x, vL lo, vL hi] (SK, μ) = some (some (vI 1), (SK, μ)) := by
  have e1 : ¬ (if x = lo then 0 else if lo < x then 1 else -1 : Int) < 0 := by split <;> (try split) <;> omega
  have e2 : ¬ (0 : Int) < (if x = hi then 0 else if hi < x then 1 else -1) := by split <;> (try split) <;> omega
  rw [V164, B164_0, if_neg e1, if_neg e2, B164_2]
  rfl
theorem in_f {x lo hi : Int} (h : x < lo ∨ hi < x) : EV sc 164 [vL x, vL lo, vL hi] (SK, μ) = some (some (vI 0), (SK, μ)) := by
  rw [V164, B164_0, B164_1, B164_2]
  by_cases h0 : x < lo
  · rw [if_pos (by rw [if_neg (by omega), if_neg (by omega)]; omega)]
    rfl
  · rw [if_neg (by split <;> (try split) <;> omega), if_pos (by rw [if_neg (by omega), if_pos (by omega)]; omega)]
    rfl
theorem isIn_t {x n : Int} (h0 : 0 ≤ x) (h1 : x < n) : EV sc 159 [vI x, vI n] (SK, μ) = some (some (vI 1), (SK, μ)) := by
  rw [V159, B159_0, if_neg (by omega), if_pos h1, B159_2]
  rfl
theorem isIn_f {x n : Int} (h : x < 0 ∨ n ≤ x) : EV sc 159 [vI x, vI n] (SK, μ) = some (some (vI 0), (SK, μ)) := by
  rw [V159, B159_0, B159_1, B159_2]
  by_cases h0 : x < 0
  · rw [if_pos h0]; rfl
  · rw [if_neg h0, if_neg (by omega)]; rfl
theorem isFile_t {x : Int} (h0 : 0 ≤ x) (h1 : x < 8) : EV sc 169 [vI x] (SK, μ) = some (some (vI 1), (SK, μ)) := by
  rw [V169, B169_0, in_t h0 (by omega), xcI_some, B169_1]
  rfl
theorem isFile_f {x : Int} (h : x < 0 ∨ 8 ≤ x) : EV sc 169 [vI x] (SK, μ) = some (some (vI 0), (SK, μ)) := by
  rw [V169, B169_0, in_f (by omega), xcI_some, B169_1]
  rfl
theorem mTest_t {x : Int} (h : 0 ≤ μ 140 6 ∧ μ 140 6 ≤ 24) (h0 : 0 ≤ x) (h1 : x < μ 140 6) : EV sc 173 [vR 139, vI x] (SK, μ) = some (some (vI 1), (SK, μ)) := by
  rw [V173, B173_0, xg_in (by omega) (by omega), wr_of (by omega) (by omega), in_t h0 (by omega), xcI_some, B173_1]
  rfl
theorem mTest_f {x : Int} (h : 0 ≤ μ 140 6 ∧ μ 140 6 ≤ 24) (h0 : x < 0 ∨ μ 140 6 ≤ x) : EV sc 173 [vR 139, vI x] (SK, μ) = some (some (vI 0), (SK, μ)) := by
  rw [V173, B173_0, xg_in (by omega) (by omega), wr_of (by omega) (by omega), in_f (by omega), xcI_some, B173_1]
  rfl
theorem mChange_t {x : Int} (h : 0 ≤ μ 140 7 ∧ μ 140 7 ≤ 60) (h0 : 0 ≤ x) (h1 : x < μ 140 7) : EV sc 181 [vR 139, vI x] (SK, μ) = some (some (vI 1), (SK, μ)) := by
  rw [V181, B181_0, xg_in (by omega) (by omega), wr_of (by omega) (by omega), in_t h0 (by omega), xcI_some, B181_1]
  rfl
theorem mChange_f {x : Int} (h : 0 ≤ μ 140 7 ∧ μ 140 7 ≤ 60) (h0 : x < 0 ∨ μ 140 7 ≤ x) : EV sc 181 [vR 139, vI x] (SK, μ) = some (some (vI 0), (SK, μ)) := by
  rw [V181, B181_0, xg_in (by omega) (by omega), wr_of (by omega) (by omega), in_f (by omega), xcI_some, B181_1]
  rfl
theorem cChange_t {x : Int} (h0 : 0 ≤ x) (h1 : x < μ 6 9) : EV sc 161 [vR 0, vI x] (SK, μ) = some (some (vI 1), (SK, μ)) := by
  rw [V161, B161_0, V23, B23_0, xcI_some, B161_1, isIn_t h0 h1, xcI_some, B161_2]
  rfl
theorem cChange_f {x : Int} (h : x < 0 ∨ μ 6 9 ≤ x) : EV sc 161 [vR 0, vI x] (SK, μ) = some (some (vI 0), (SK, μ)) := by
  rw [V161, B161_0, V23, B23_0, xcI_some, B161_1, isIn_f h, xcI_some, B161_2]
  rfl
end

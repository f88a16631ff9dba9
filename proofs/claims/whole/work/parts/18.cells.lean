/-! rows of ints: reading, writing; lemmas of the memory -/
def gt (n : Nat) (f : Nat → Int) (i : Int) : Int := if 0 ≤ i ∧ i < n then f i.toNat else 0
def st (μ : xM) (a n : Nat) (i v : Int) : xM := if 0 ≤ i ∧ i < n then up2 μ a i.toNat v else μ
theorem gt_in {n : Nat} {f : Nat → Int} {i : Int} (h0 : 0 ≤ i) (h1 : i < n) : gt n f i = f i.toNat := if_pos ⟨h0, h1⟩
theorem gt_out {n : Nat} {f : Nat → Int} {i : Int} (h : i < 0 ∨ n ≤ i) : gt n f i = 0 := if_neg (by omega)
theorem st_in {μ : xM} {a n : Nat} {i v : Int} (h0 : 0 ≤ i) (h1 : i < n) : st μ a n i v = up2 μ a i.toNat v := if_pos ⟨h0, h1⟩
theorem st_out {μ : xM} {a n : Nat} {i v : Int} (h : i < 0 ∨ n ≤ i) : st μ a n i v = μ := if_neg (by omega)
theorem get_if {n : Nat} {f : Nat → Int} {i : Int} (P : Int → Option xR) (h : True) : (if i < 0 then P 0 else if i < n then xg n i (P (f i.toNat)) else P 0) = P (gt n f i) := by
  unfold gt xg
  by_cases h0 : i < 0
  · rw [if_pos h0, if_neg (by omega)]
  · by_cases h1 : i < n
    · rw [if_neg h0, if_pos h1, if_pos (by omega), if_pos (by omega)]
    · rw [if_neg h0, if_neg h1, if_neg (by omega)]
theorem set_if {n : Nat} (μ : xM) (a : Nat) (i v : Int) (P : xM → Option xR) : (if i < 0 then P μ else if i < n then xg n i (P (up2 μ a i.toNat v)) else P μ) = P (st μ a n i v) := by
  unfold st xg
  by_cases h0 : i < 0
  · rw [if_pos h0, if_neg (by omega)]
  · by_cases h1 : i < n
    · rw [if_neg h0, if_pos h1, if_pos (by omega), if_pos (by omega)]
    · rw [if_neg h0, if_neg h1, if_neg (by omega)]
theorem cp2_zero {μ : xM} {a sp d dp : Nat} : cp2 μ a sp d dp 0 = μ := by
  funext k j
  unfold cp2
  rw [if_neg (by omega)]
theorem up2_eq {μ : xM} {k i : Nat} {v : Int} : up2 μ k i v k i = v := if_pos ⟨rfl, rfl⟩
theorem up2_ne {μ : xM} {k i : Nat} {v : Int} {k' i' : Nat} (h : k' ≠ k ∨ i' ≠ i) : up2 μ k i v k' i' = μ k' i' := if_neg (by omega)
theorem up2_k {μ : xM} {k i : Nat} {v : Int} {k' : Nat} (h : k' ≠ k) : up2 μ k i v k' = μ k' := by
  funext i'
  exact up2_ne (Or.inl h)
theorem cp2_in {μ : xM} {a sp d dp n k j : Nat} (hk : k = d) (h0 : dp ≤ j) (h1 : j < dp + n) : cp2 μ a sp d dp n k j = μ a (sp + (j - dp)) := if_pos ⟨hk, h0, h1⟩
theorem cp2_out {μ : xM} {a sp d dp n k j : Nat} (h : k ≠ d ∨ j < dp ∨ dp + n ≤ j) : cp2 μ a sp d dp n k j = μ k j := if_neg (by omega)
theorem cp2_k {μ : xM} {a sp d dp n k : Nat} (h : k ≠ d) : cp2 μ a sp d dp n k = μ k := by
  funext j
  exact cp2_out (Or.inl h)
theorem xcI_ite {c : Prop} [Decidable c] {a b : Option xR} {k : Int → xS → Option xR} : xcI (if c then a else b) k = if c then xcI a k else xcI b k := by split <;> rfl
theorem xcV_ite {c : Prop} [Decidable c] {a b : Option xR} {k : xS → Option xR} : xcV (if c then a else b) k = if c then xcV a k else xcV b k := by split <;> rfl
/-- 1 for what holds -/
def bi (b : Bool) : Int := if b then 1 else 0
theorem bi_01 (b : Bool) : bi b = 0 ∨ bi b = 1 := by cases b <;> simp [bi]
theorem bi_0 (b : Bool) : bi b = 0 ↔ b = false := by cases b <;> simp [bi]
theorem bi_t {b : Bool} (h : b = true) : bi b = 1 := by rw [h]; rfl
theorem bi_f {b : Bool} (h : b = false) : bi b = 0 := by rw [h]; rfl
/-- a loop that goes on: from the first round to the last -/
theorem iter_up {α : Type} {f : Nat → α} (n : Nat) : ∀ k, k ≤ n → (∀ j, k ≤ j → j < n → f j = f (j + 1)) → f k = f n := by
  intro k hk h
  induction n with
  | zero => rw [show k = 0 by omega]
  | succ n ih =>
    by_cases e : k = n + 1
    · rw [e]
    · rw [ih (by omega) (fun j h1 h2 => h j h1 (by omega)), h n (by omega) (by omega)]
theorem G_7 {sc : Nat × (Nat → Int)} {μ : xM} {i : Int} : EV sc 18 [vR 7, vI i] (SK, μ) = some (some (vI (gt 61 (μ 8) i)), (SK, μ)) := by
  rw [V18_7, B18_7_0]
  simp only [B18_7_1, B18_7_2]
  exact get_if (fun v => some (some (vI v), (SK, μ))) trivial
theorem G_9 {sc : Nat × (Nat → Int)} {μ : xM} {i : Int} : EV sc 18 [vR 9, vI i] (SK, μ) = some (some (vI (gt 61 (μ 10) i)), (SK, μ)) := by
  rw [V18_9, B18_9_0]
  simp only [B18_9_1, B18_9_2]
  exact get_if (fun v => some (some (vI v), (SK, μ))) trivial
theorem G_11 {sc : Nat × (Nat → Int)} {μ : xM} {i : Int} : EV sc 18 [vR 11, vI i] (SK, μ) = some (some (vI (gt 61 (μ 12) i)), (SK, μ)) := by
  rw [V18_11, B18_11_0]
  simp only [B18_11_1, B18_11_2]
  exact get_if (fun v => some (some (vI v), (SK, μ))) trivial
theorem G_13 {sc : Nat × (Nat → Int)} {μ : xM} {i : Int} : EV sc 18 [vR 13, vI i] (SK, μ) = some (some (vI (gt 61 (μ 14) i)), (SK, μ)) := by
  rw [V18_13, B18_13_0]
  simp only [B18_13_1, B18_13_2]
  exact get_if (fun v => some (some (vI v), (SK, μ))) trivial
theorem G_15 {sc : Nat × (Nat → Int)} {μ : xM} {i : Int} : EV sc 18 [vR 15, vI i] (SK, μ) = some (some (vI (gt 61 (μ 16) i)), (SK, μ)) := by
  rw [V18_15, B18_15_0]
  simp only [B18_15_1, B18_15_2]
  exact get_if (fun v => some (some (vI v), (SK, μ))) trivial
theorem G_17 {sc : Nat × (Nat → Int)} {μ : xM} {i : Int} : EV sc 18 [vR 17, vI i] (SK, μ) = some (some (vI (gt 61 (μ 18) i)), (SK, μ)) := by
  rw [V18_17, B18_17_0]
  simp only [B18_17_1, B18_17_2]
  exact get_if (fun v => some (some (vI v), (SK, μ))) trivial
theorem G_19 {sc : Nat × (Nat → Int)} {μ : xM} {i : Int} : EV sc 18 [vR 19, vI i] (SK, μ) = some (some (vI (gt 61 (μ 20) i)), (SK, μ)) := by
  rw [V18_19, B18_19_0]
  simp only [B18_19_1, B18_19_2]
  exact get_if (fun v => some (some (vI v), (SK, μ))) trivial
theorem G_21 {sc : Nat × (Nat → Int)} {μ : xM} {i : Int} : EV sc 18 [vR 21, vI i] (SK, μ) = some (some (vI (gt 61 (μ 22) i)), (SK, μ)) := by
  rw [V18_21, B18_21_0]
  simp only [B18_21_1, B18_21_2]
  exact get_if (fun v => some (some (vI v), (SK, μ))) trivial
theorem G_24 {sc : Nat × (Nat → Int)} {μ : xM} {i : Int} : EV sc 18 [vR 24, vI i] (SK, μ) = some (some (vI (gt 244 (μ 25) i)), (SK, μ)) := by
  rw [V18_24, B18_24_0]
  simp only [B18_24_1, B18_24_2]
  exact get_if (fun v => some (some (vI v), (SK, μ))) trivial
theorem G_26 {sc : Nat × (Nat → Int)} {μ : xM} {i : Int} : EV sc 18 [vR 26, vI i] (SK, μ) = some (some (vI (gt 244 (μ 27) i)), (SK, μ)) := by
  rw [V18_26, B18_26_0]
  simp only [B18_26_1, B18_26_2]
  exact get_if (fun v => some (some (vI v), (SK, μ))) trivial
theorem G_28 {sc : Nat × (Nat → Int)} {μ : xM} {i : Int} : EV sc 18 [vR 28, vI i] (SK, μ) = some (some (vI (gt 244 (μ 29) i)), (SK, μ)) := by
  rw [V18_28, B18_28_0]
  simp only [B18_28_1, B18_28_2]
  exact get_if (fun v => some (some (vI v), (SK, μ))) trivial
theorem G_30 {sc : Nat × (Nat → Int)} {μ : xM} {i : Int} : EV sc 18 [vR 30, vI i] (SK, μ) = some (some (vI (gt 244 (μ 31) i)), (SK, μ)) := by
  rw [V18_30, B18_30_0]
  simp only [B18_30_1, B18_30_2]
  exact get_if (fun v => some (some (vI v), (SK, μ))) trivial
theorem G_32 {sc : Nat × (Nat → Int)} {μ : xM} {i : Int} : EV sc 18 [vR 32, vI i] (SK, μ) = some (some (vI (gt 244 (μ 33) i)), (SK, μ)) := by
  rw [V18_32, B18_32_0]
  simp only [B18_32_1, B18_32_2]
  exact get_if (fun v => some (some (vI v), (SK, μ))) trivial
theorem G_34 {sc : Nat × (Nat → Int)} {μ : xM} {i : Int} : EV sc 18 [vR 34, vI i] (SK, μ) = some (some (vI (gt 1464 (μ 35) i)), (SK, μ)) := by
  rw [V18_34, B18_34_0]
  simp only [B18_34_1, B18_34_2]
  exact get_if (fun v => some (some (vI v), (SK, μ))) trivial
theorem G_36 {sc : Nat × (Nat → Int)} {μ : xM} {i : Int} : EV sc 18 [vR 36, vI i] (SK, μ) = some (some (vI (gt 1464 (μ 37) i)), (SK, μ)) := by
  rw [V18_36, B18_36_0]
  simp only [B18_36_1, B18_36_2]
  exact get_if (fun v => some (some (vI v), (SK, μ))) trivial
theorem G_39 {sc : Nat × (Nat → Int)} {μ : xM} {i : Int} : EV sc 18 [vR 39, vI i] (SK, μ) = some (some (vI (gt 60 (μ 40) i)), (SK, μ)) := by
  rw [V18_39, B18_39_0]
  simp only [B18_39_1, B18_39_2]
  exact get_if (fun v => some (some (vI v), (SK, μ))) trivial
theorem G_42 {sc : Nat × (Nat → Int)} {μ : xM} {i : Int} : EV sc 18 [vR 42, vI i] (SK, μ) = some (some (vI (gt 8 (μ 43) i)), (SK, μ)) := by
  rw [V18_42, B18_42_0]
  simp only [B18_42_1, B18_42_2]
  exact get_if (fun v => some (some (vI v), (SK, μ))) trivial
theorem G_44 {sc : Nat × (Nat → Int)} {μ : xM} {i : Int} : EV sc 18 [vR 44, vI i] (SK, μ) = some (some (vI (gt 8 (μ 45) i)), (SK, μ)) := by
  rw [V18_44, B18_44_0]
  simp only [B18_44_1, B18_44_2]
  exact get_if (fun v => some (some (vI v), (SK, μ))) trivial
theorem G_46 {sc : Nat × (Nat → Int)} {μ : xM} {i : Int} : EV sc 18 [vR 46, vI i] (SK, μ) = some (some (vI (gt 8 (μ 47) i)), (SK, μ)) := by
  rw [V18_46, B18_46_0]
  simp only [B18_46_1, B18_46_2]
  exact get_if (fun v => some (some (vI v), (SK, μ))) trivial
theorem G_48 {sc : Nat × (Nat → Int)} {μ : xM} {i : Int} : EV sc 18 [vR 48, vI i] (SK, μ) = some (some (vI (gt 8 (μ 49) i)), (SK, μ)) := by
  rw [V18_48, B18_48_0]
  simp only [B18_48_1, B18_48_2]
  exact get_if (fun v => some (some (vI v), (SK, μ))) trivial
theorem G_50 {sc : Nat × (Nat → Int)} {μ : xM} {i : Int} : EV sc 18 [vR 50, vI i] (SK, μ) = some (some (vI (gt 8 (μ 51) i)), (SK, μ)) := by
  rw [V18_50, B18_50_0]
  simp only [B18_50_1, B18_50_2]
  exact get_if (fun v => some (some (vI v), (SK, μ))) trivial
theorem G_52 {sc : Nat × (Nat → Int)} {μ : xM} {i : Int} : EV sc 18 [vR 52, vI i] (SK, μ) = some (some (vI (gt 8 (μ 53) i)), (SK, μ)) := by
  rw [V18_52, B18_52_0]
  simp only [B18_52_1, B18_52_2]
  exact get_if (fun v => some (some (vI v), (SK, μ))) trivial
theorem G_55 {sc : Nat × (Nat → Int)} {μ : xM} {i : Int} : EV sc 18 [vR 55, vI i] (SK, μ) = some (some (vI (gt 2400 (μ 56) i)), (SK, μ)) := by
  rw [V18_55, B18_55_0]
  simp only [B18_55_1, B18_55_2]
  exact get_if (fun v => some (some (vI v), (SK, μ))) trivial
theorem G_57 {sc : Nat × (Nat → Int)} {μ : xM} {i : Int} : EV sc 18 [vR 57, vI i] (SK, μ) = some (some (vI (gt 2400 (μ 58) i)), (SK, μ)) := by
  rw [V18_57, B18_57_0]
  simp only [B18_57_1, B18_57_2]
  exact get_if (fun v => some (some (vI v), (SK, μ))) trivial
theorem G_60 {sc : Nat × (Nat → Int)} {μ : xM} {i : Int} : EV sc 18 [vR 60, vI i] (SK, μ) = some (some (vI (gt 24 (μ 61) i)), (SK, μ)) := by
  rw [V18_60, B18_60_0]
  simp only [B18_60_1, B18_60_2]
  exact get_if (fun v => some (some (vI v), (SK, μ))) trivial
theorem G_62 {sc : Nat × (Nat → Int)} {μ : xM} {i : Int} : EV sc 18 [vR 62, vI i] (SK, μ) = some (some (vI (gt 24 (μ 63) i)), (SK, μ)) := by
  rw [V18_62, B18_62_0]
  simp only [B18_62_1, B18_62_2]
  exact get_if (fun v => some (some (vI v), (SK, μ))) trivial
theorem G_64 {sc : Nat × (Nat → Int)} {μ : xM} {i : Int} : EV sc 18 [vR 64, vI i] (SK, μ) = some (some (vI (gt 24 (μ 65) i)), (SK, μ)) := by
  rw [V18_64, B18_64_0]
  simp only [B18_64_1, B18_64_2]
  exact get_if (fun v => some (some (vI v), (SK, μ))) trivial
theorem G_66 {sc : Nat × (Nat → Int)} {μ : xM} {i : Int} : EV sc 18 [vR 66, vI i] (SK, μ) = some (some (vI (gt 24 (μ 67) i)), (SK, μ)) := by
  rw [V18_66, B18_66_0]
  simp only [B18_66_1, B18_66_2]
  exact get_if (fun v => some (some (vI v), (SK, μ))) trivial
theorem G_68 {sc : Nat × (Nat → Int)} {μ : xM} {i : Int} : EV sc 18 [vR 68, vI i] (SK, μ) = some (some (vI (gt 24 (μ 69) i)), (SK, μ)) := by
  rw [V18_68, B18_68_0]
  simp only [B18_68_1, B18_68_2]
  exact get_if (fun v => some (some (vI v), (SK, μ))) trivial
theorem S_7 {sc : Nat × (Nat → Int)} {μ : xM} {i v : Int} : EV sc 19 [vR 7, vI i, vI v] (SK, μ) = some (none, (SK, st μ 8 61 i v)) := by
  rw [V19_7, B19_7_0]
  simp only [B19_7_1]
  exact set_if μ 8 i v (fun m => some (none, (SK, m)))
theorem S_9 {sc : Nat × (Nat → Int)} {μ : xM} {i v : Int} : EV sc 19 [vR 9, vI i, vI v] (SK, μ) = some (none, (SK, st μ 10 61 i v)) := by
  rw [V19_9, B19_9_0]
  simp only [B19_9_1]
  exact set_if μ 10 i v (fun m => some (none, (SK, m)))
theorem S_11 {sc : Nat × (Nat → Int)} {μ : xM} {i v : Int} : EV sc 19 [vR 11, vI i, vI v] (SK, μ) = some (none, (SK, st μ 12 61 i v)) := by
  rw [V19_11, B19_11_0]
  simp only [B19_11_1]
  exact set_if μ 12 i v (fun m => some (none, (SK, m)))
theorem S_13 {sc : Nat × (Nat → Int)} {μ : xM} {i v : Int} : EV sc 19 [vR 13, vI i, vI v] (SK, μ) = some (none, (SK, st μ 14 61 i v)) := by
  rw [V19_13, B19_13_0]
  simp only [B19_13_1]
  exact set_if μ 14 i v (fun m => some (none, (SK, m)))
theorem S_15 {sc : Nat × (Nat → Int)} {μ : xM} {i v : Int} : EV sc 19 [vR 15, vI i, vI v] (SK, μ) = some (none, (SK, st μ 16 61 i v)) := by
  rw [V19_15, B19_15_0]
  simp only [B19_15_1]
  exact set_if μ 16 i v (fun m => some (none, (SK, m)))
theorem S_17 {sc : Nat × (Nat → Int)} {μ : xM} {i v : Int} : EV sc 19 [vR 17, vI i, vI v] (SK, μ) = some (none, (SK, st μ 18 61 i v)) := by
  rw [V19_17, B19_17_0]
  simp only [B19_17_1]
  exact set_if μ 18 i v (fun m => some (none, (SK, m)))
theorem S_19 {sc : Nat × (Nat → Int)} {μ : xM} {i v : Int} : EV sc 19 [vR 19, vI i, vI v] (SK, μ) = some (none, (SK, st μ 20 61 i v)) := by
  rw [V19_19, B19_19_0]
  simp only [B19_19_1]
  exact set_if μ 20 i v (fun m => some (none, (SK, m)))
theorem S_21 {sc : Nat × (Nat → Int)} {μ : xM} {i v : Int} : EV sc 19 [vR 21, vI i, vI v] (SK, μ) = some (none, (SK, st μ 22 61 i v)) := by
  rw [V19_21, B19_21_0]
  simp only [B19_21_1]
  exact set_if μ 22 i v (fun m => some (none, (SK, m)))
theorem S_24 {sc : Nat × (Nat → Int)} {μ : xM} {i v : Int} : EV sc 19 [vR 24, vI i, vI v] (SK, μ) = some (none, (SK, st μ 25 244 i v)) := by
  rw [V19_24, B19_24_0]
  simp only [B19_24_1]
  exact set_if μ 25 i v (fun m => some (none, (SK, m)))
theorem S_26 {sc : Nat × (Nat → Int)} {μ : xM} {i v : Int} : EV sc 19 [vR 26, vI i, vI v] (SK, μ) = some (none, (SK, st μ 27 244 i v)) := by
  rw [V19_26, B19_26_0]
  simp only [B19_26_1]
  exact set_if μ 27 i v (fun m => some (none, (SK, m)))
theorem S_28 {sc : Nat × (Nat → Int)} {μ : xM} {i v : Int} : EV sc 19 [vR 28, vI i, vI v] (SK, μ) = some (none, (SK, st μ 29 244 i v)) := by
  rw [V19_28, B19_28_0]
  simp only [B19_28_1]
  exact set_if μ 29 i v (fun m => some (none, (SK, m)))
theorem S_30 {sc : Nat × (Nat → Int)} {μ : xM} {i v : Int} : EV sc 19 [vR 30, vI i, vI v] (SK, μ) = some (none, (SK, st μ 31 244 i v)) := by
  rw [V19_30, B19_30_0]
  simp only [B19_30_1]
  exact set_if μ 31 i v (fun m => some (none, (SK, m)))
theorem S_32 {sc : Nat × (Nat → Int)} {μ : xM} {i v : Int} : EV sc 19 [vR 32, vI i, vI v] (SK, μ) = some (none, (SK, st μ 33 244 i v)) := by
  rw [V19_32, B19_32_0]
  simp only [B19_32_1]
  exact set_if μ 33 i v (fun m => some (none, (SK, m)))
theorem S_34 {sc : Nat × (Nat → Int)} {μ : xM} {i v : Int} : EV sc 19 [vR 34, vI i, vI v] (SK, μ) = some (none, (SK, st μ 35 1464 i v)) := by
  rw [V19_34, B19_34_0]
  simp only [B19_34_1]
  exact set_if μ 35 i v (fun m => some (none, (SK, m)))
theorem S_36 {sc : Nat × (Nat → Int)} {μ : xM} {i v : Int} : EV sc 19 [vR 36, vI i, vI v] (SK, μ) = some (none, (SK, st μ 37 1464 i v)) := by
  rw [V19_36, B19_36_0]
  simp only [B19_36_1]
  exact set_if μ 37 i v (fun m => some (none, (SK, m)))
theorem S_39 {sc : Nat × (Nat → Int)} {μ : xM} {i v : Int} : EV sc 19 [vR 39, vI i, vI v] (SK, μ) = some (none, (SK, st μ 40 60 i v)) := by
  rw [V19_39, B19_39_0]
  simp only [B19_39_1]
  exact set_if μ 40 i v (fun m => some (none, (SK, m)))
theorem S_42 {sc : Nat × (Nat → Int)} {μ : xM} {i v : Int} : EV sc 19 [vR 42, vI i, vI v] (SK, μ) = some (none, (SK, st μ 43 8 i v)) := by
  rw [V19_42, B19_42_0]
  simp only [B19_42_1]
  exact set_if μ 43 i v (fun m => some (none, (SK, m)))
theorem S_44 {sc : Nat × (Nat → Int)} {μ : xM} {i v : Int} : EV sc 19 [vR 44, vI i, vI v] (SK, μ) = some (none, (SK, st μ 45 8 i v)) := by
  rw [V19_44, B19_44_0]
  simp only [B19_44_1]
  exact set_if μ 45 i v (fun m => some (none, (SK, m)))
theorem S_46 {sc : Nat × (Nat → Int)} {μ : xM} {i v : Int} : EV sc 19 [vR 46, vI i, vI v] (SK, μ) = some (none, (SK, st μ 47 8 i v)) := by
  rw [V19_46, B19_46_0]
  simp only [B19_46_1]
  exact set_if μ 47 i v (fun m => some (none, (SK, m)))
theorem S_48 {sc : Nat × (Nat → Int)} {μ : xM} {i v : Int} : EV sc 19 [vR 48, vI i, vI v] (SK, μ) = some (none, (SK, st μ 49 8 i v)) := by
  rw [V19_48, B19_48_0]
  simp only [B19_48_1]
  exact set_if μ 49 i v (fun m => some (none, (SK, m)))
theorem S_50 {sc : Nat × (Nat → Int)} {μ : xM} {i v : Int} : EV sc 19 [vR 50, vI i, vI v] (SK, μ) = some (none, (SK, st μ 51 8 i v)) := by
  rw [V19_50, B19_50_0]
  simp only [B19_50_1]
  exact set_if μ 51 i v (fun m => some (none, (SK, m)))
theorem S_52 {sc : Nat × (Nat → Int)} {μ : xM} {i v : Int} : EV sc 19 [vR 52, vI i, vI v] (SK, μ) = some (none, (SK, st μ 53 8 i v)) := by
  rw [V19_52, B19_52_0]
  simp only [B19_52_1]
  exact set_if μ 53 i v (fun m => some (none, (SK, m)))
theorem S_55 {sc : Nat × (Nat → Int)} {μ : xM} {i v : Int} : EV sc 19 [vR 55, vI i, vI v] (SK, μ) = some (none, (SK, st μ 56 2400 i v)) := by
  rw [V19_55, B19_55_0]
  simp only [B19_55_1]
  exact set_if μ 56 i v (fun m => some (none, (SK, m)))
theorem S_57 {sc : Nat × (Nat → Int)} {μ : xM} {i v : Int} : EV sc 19 [vR 57, vI i, vI v] (SK, μ) = some (none, (SK, st μ 58 2400 i v)) := by
  rw [V19_57, B19_57_0]
  simp only [B19_57_1]
  exact set_if μ 58 i v (fun m => some (none, (SK, m)))
theorem S_60 {sc : Nat × (Nat → Int)} {μ : xM} {i v : Int} : EV sc 19 [vR 60, vI i, vI v] (SK, μ) = some (none, (SK, st μ 61 24 i v)) := by
  rw [V19_60, B19_60_0]
  simp only [B19_60_1]
  exact set_if μ 61 i v (fun m => some (none, (SK, m)))
theorem S_62 {sc : Nat × (Nat → Int)} {μ : xM} {i v : Int} : EV sc 19 [vR 62, vI i, vI v] (SK, μ) = some (none, (SK, st μ 63 24 i v)) := by
  rw [V19_62, B19_62_0]
  simp only [B19_62_1]
  exact set_if μ 63 i v (fun m => some (none, (SK, m)))
theorem S_64 {sc : Nat × (Nat → Int)} {μ : xM} {i v : Int} : EV sc 19 [vR 64, vI i, vI v] (SK, μ) = some (none, (SK, st μ 65 24 i v)) := by
  rw [V19_64, B19_64_0]
  simp only [B19_64_1]
  exact set_if μ 65 i v (fun m => some (none, (SK, m)))
theorem S_66 {sc : Nat × (Nat → Int)} {μ : xM} {i v : Int} : EV sc 19 [vR 66, vI i, vI v] (SK, μ) = some (none, (SK, st μ 67 24 i v)) := by
  rw [V19_66, B19_66_0]
  simp only [B19_66_1]
  exact set_if μ 67 i v (fun m => some (none, (SK, m)))
theorem S_68 {sc : Nat × (Nat → Int)} {μ : xM} {i v : Int} : EV sc 19 [vR 68, vI i, vI v] (SK, μ) = some (none, (SK, st μ 69 24 i v)) := by
  rw [V19_68, B19_68_0]
  simp only [B19_68_1]
  exact set_if μ 69 i v (fun m => some (none, (SK, m)))
theorem M_42 {sc : Nat × (Nat → Int)} {μ : xM} {f t l : Int} (h0 : 0 ≤ f) (h1 : 0 ≤ t) (h2 : 0 ≤ l) (h3 : f + l ≤ 8) (h4 : t + l ≤ 8) : EV sc 20 [vR 42, vI f, vI t, vI l] (SK, μ) = some (none, (SK, cp2 μ 43 f.toNat 43 t.toNat l.toNat)) := by
  rw [V20_42]
  by_cases h : 0 < l
  · simp (disch := omega) only [B20_42_0, B20_42_1, B20_42_2, B20_42_3, B20_42_4, wr_of, if_pos, if_neg]
  · have e : l = 0 := by omega
    subst e
    simp (disch := omega) only [B20_42_0, B20_42_1, if_neg]
    rw [show (0 : Int).toNat = 0 from rfl, cp2_zero]
theorem M_44 {sc : Nat × (Nat → Int)} {μ : xM} {f t l : Int} (h0 : 0 ≤ f) (h1 : 0 ≤ t) (h2 : 0 ≤ l) (h3 : f + l ≤ 8) (h4 : t + l ≤ 8) : EV sc 20 [vR 44, vI f, vI t, vI l] (SK, μ) = some (none, (SK, cp2 μ 45 f.toNat 45 t.toNat l.toNat)) := by
  rw [V20_44]
  by_cases h : 0 < l
  · simp (disch := omega) only [B20_44_0, B20_44_1, B20_44_2, B20_44_3, B20_44_4, wr_of, if_pos, if_neg]
  · have e : l = 0 := by omega
    subst e
    simp (disch := omega) only [B20_44_0, B20_44_1, if_neg]
    rw [show (0 : Int).toNat = 0 from rfl, cp2_zero]
theorem K_7_76 {sc : Nat × (Nat → Int)} {μ : xM} : EV sc 21 [vR 7, vR 76] (SK, μ) = some (none, (SK, cp2 μ 77 0 8 0 61)) := by
  rw [V21_7_76, B21_7_76_0]
  rw [if_pos (by decide)]
theorem K_9_78 {sc : Nat × (Nat → Int)} {μ : xM} : EV sc 21 [vR 9, vR 78] (SK, μ) = some (none, (SK, cp2 μ 79 0 10 0 61)) := by
  rw [V21_9_78, B21_9_78_0]
  rw [if_pos (by decide)]
theorem K_11_80 {sc : Nat × (Nat → Int)} {μ : xM} : EV sc 21 [vR 11, vR 80] (SK, μ) = some (none, (SK, cp2 μ 81 0 12 0 61)) := by
  rw [V21_11_80, B21_11_80_0]
  rw [if_pos (by decide)]
theorem K_13_82 {sc : Nat × (Nat → Int)} {μ : xM} : EV sc 21 [vR 13, vR 82] (SK, μ) = some (none, (SK, cp2 μ 83 0 14 0 61)) := by
  rw [V21_13_82, B21_13_82_0]
  rw [if_pos (by decide)]
theorem K_15_84 {sc : Nat × (Nat → Int)} {μ : xM} : EV sc 21 [vR 15, vR 84] (SK, μ) = some (none, (SK, cp2 μ 85 0 16 0 61)) := by
  rw [V21_15_84, B21_15_84_0]
  rw [if_pos (by decide)]
theorem K_17_86 {sc : Nat × (Nat → Int)} {μ : xM} : EV sc 21 [vR 17, vR 86] (SK, μ) = some (none, (SK, cp2 μ 87 0 18 0 61)) := by
  rw [V21_17_86, B21_17_86_0]
  rw [if_pos (by decide)]
theorem K_19_88 {sc : Nat × (Nat → Int)} {μ : xM} : EV sc 21 [vR 19, vR 88] (SK, μ) = some (none, (SK, cp2 μ 89 0 20 0 61)) := by
  rw [V21_19_88, B21_19_88_0]
  rw [if_pos (by decide)]
theorem K_21_90 {sc : Nat × (Nat → Int)} {μ : xM} : EV sc 21 [vR 21, vR 90] (SK, μ) = some (none, (SK, cp2 μ 91 0 22 0 61)) := by
  rw [V21_21_90, B21_21_90_0]
  rw [if_pos (by decide)]
theorem K_24_93 {sc : Nat × (Nat → Int)} {μ : xM} : EV sc 21 [vR 24, vR 93] (SK, μ) = some (none, (SK, cp2 μ 94 0 25 0 244)) := by
  rw [V21_24_93, B21_24_93_0]
  rw [if_pos (by decide)]
theorem K_26_95 {sc : Nat × (Nat → Int)} {μ : xM} : EV sc 21 [vR 26, vR 95] (SK, μ) = some (none, (SK, cp2 μ 96 0 27 0 244)) := by
  rw [V21_26_95, B21_26_95_0]
  rw [if_pos (by decide)]
theorem K_28_97 {sc : Nat × (Nat → Int)} {μ : xM} : EV sc 21 [vR 28, vR 97] (SK, μ) = some (none, (SK, cp2 μ 98 0 29 0 244)) := by
  rw [V21_28_97, B21_28_97_0]
  rw [if_pos (by decide)]
theorem K_30_99 {sc : Nat × (Nat → Int)} {μ : xM} : EV sc 21 [vR 30, vR 99] (SK, μ) = some (none, (SK, cp2 μ 100 0 31 0 244)) := by
  rw [V21_30_99, B21_30_99_0]
  rw [if_pos (by decide)]
theorem K_32_101 {sc : Nat × (Nat → Int)} {μ : xM} : EV sc 21 [vR 32, vR 101] (SK, μ) = some (none, (SK, cp2 μ 102 0 33 0 244)) := by
  rw [V21_32_101, B21_32_101_0]
  rw [if_pos (by decide)]
theorem K_34_103 {sc : Nat × (Nat → Int)} {μ : xM} : EV sc 21 [vR 34, vR 103] (SK, μ) = some (none, (SK, cp2 μ 104 0 35 0 1464)) := by
  rw [V21_34_103, B21_34_103_0]
  rw [if_pos (by decide)]
theorem K_36_105 {sc : Nat × (Nat → Int)} {μ : xM} : EV sc 21 [vR 36, vR 105] (SK, μ) = some (none, (SK, cp2 μ 106 0 37 0 1464)) := by
  rw [V21_36_105, B21_36_105_0]
  rw [if_pos (by decide)]
theorem K_39_108 {sc : Nat × (Nat → Int)} {μ : xM} : EV sc 21 [vR 39, vR 108] (SK, μ) = some (none, (SK, cp2 μ 109 0 40 0 60)) := by
  rw [V21_39_108, B21_39_108_0]
  rw [if_pos (by decide)]
theorem K_42_111 {sc : Nat × (Nat → Int)} {μ : xM} : EV sc 21 [vR 42, vR 111] (SK, μ) = some (none, (SK, cp2 μ 112 0 43 0 8)) := by
  rw [V21_42_111, B21_42_111_0]
  rw [if_pos (by decide)]
theorem K_44_113 {sc : Nat × (Nat → Int)} {μ : xM} : EV sc 21 [vR 44, vR 113] (SK, μ) = some (none, (SK, cp2 μ 114 0 45 0 8)) := by
  rw [V21_44_113, B21_44_113_0]
  rw [if_pos (by decide)]
theorem K_46_115 {sc : Nat × (Nat → Int)} {μ : xM} : EV sc 21 [vR 46, vR 115] (SK, μ) = some (none, (SK, cp2 μ 116 0 47 0 8)) := by
  rw [V21_46_115, B21_46_115_0]
  rw [if_pos (by decide)]
theorem K_48_117 {sc : Nat × (Nat → Int)} {μ : xM} : EV sc 21 [vR 48, vR 117] (SK, μ) = some (none, (SK, cp2 μ 118 0 49 0 8)) := by
  rw [V21_48_117, B21_48_117_0]
  rw [if_pos (by decide)]
theorem K_50_119 {sc : Nat × (Nat → Int)} {μ : xM} : EV sc 21 [vR 50, vR 119] (SK, μ) = some (none, (SK, cp2 μ 120 0 51 0 8)) := by
  rw [V21_50_119, B21_50_119_0]
  rw [if_pos (by decide)]
theorem K_52_121 {sc : Nat × (Nat → Int)} {μ : xM} : EV sc 21 [vR 52, vR 121] (SK, μ) = some (none, (SK, cp2 μ 122 0 53 0 8)) := by
  rw [V21_52_121, B21_52_121_0]
  rw [if_pos (by decide)]
theorem K_55_124 {sc : Nat × (Nat → Int)} {μ : xM} : EV sc 21 [vR 55, vR 124] (SK, μ) = some (none, (SK, cp2 μ 125 0 56 0 2400)) := by
  rw [V21_55_124, B21_55_124_0]
  rw [if_pos (by decide)]
theorem K_57_126 {sc : Nat × (Nat → Int)} {μ : xM} : EV sc 21 [vR 57, vR 126] (SK, μ) = some (none, (SK, cp2 μ 127 0 58 0 2400)) := by
  rw [V21_57_126, B21_57_126_0]
  rw [if_pos (by decide)]
theorem K_60_129 {sc : Nat × (Nat → Int)} {μ : xM} : EV sc 21 [vR 60, vR 129] (SK, μ) = some (none, (SK, cp2 μ 130 0 61 0 24)) := by
  rw [V21_60_129, B21_60_129_0]
  rw [if_pos (by decide)]
theorem K_62_131 {sc : Nat × (Nat → Int)} {μ : xM} : EV sc 21 [vR 62, vR 131] (SK, μ) = some (none, (SK, cp2 μ 132 0 63 0 24)) := by
  rw [V21_62_131, B21_62_131_0]
  rw [if_pos (by decide)]
theorem K_64_133 {sc : Nat × (Nat → Int)} {μ : xM} : EV sc 21 [vR 64, vR 133] (SK, μ) = some (none, (SK, cp2 μ 134 0 65 0 24)) := by
  rw [V21_64_133, B21_64_133_0]
  rw [if_pos (by decide)]
theorem K_66_135 {sc : Nat × (Nat → Int)} {μ : xM} : EV sc 21 [vR 66, vR 135] (SK, μ) = some (none, (SK, cp2 μ 136 0 67 0 24)) := by
  rw [V21_66_135, B21_66_135_0]
  rw [if_pos (by decide)]
theorem K_68_137 {sc : Nat × (Nat → Int)} {μ : xM} : EV sc 21 [vR 68, vR 137] (SK, μ) = some (none, (SK, cp2 μ 138 0 69 0 24)) := by
  rw [V21_68_137, B21_68_137_0]
  rw [if_pos (by decide)]
theorem K_76_7 {sc : Nat × (Nat → Int)} {μ : xM} : EV sc 21 [vR 76, vR 7] (SK, μ) = some (none, (SK, cp2 μ 8 0 77 0 61)) := by
  rw [V21_76_7, B21_76_7_0]
  rw [if_pos (by decide)]
theorem K_78_9 {sc : Nat × (Nat → Int)} {μ : xM} : EV sc 21 [vR 78, vR 9] (SK, μ) = some (none, (SK, cp2 μ 10 0 79 0 61)) := by
  rw [V21_78_9, B21_78_9_0]
  rw [if_pos (by decide)]
theorem K_80_11 {sc : Nat × (Nat → Int)} {μ : xM} : EV sc 21 [vR 80, vR 11] (SK, μ) = some (none, (SK, cp2 μ 12 0 81 0 61)) := by
  rw [V21_80_11, B21_80_11_0]
  rw [if_pos (by decide)]
theorem K_82_13 {sc : Nat × (Nat → Int)} {μ : xM} : EV sc 21 [vR 82, vR 13] (SK, μ) = some (none, (SK, cp2 μ 14 0 83 0 61)) := by
  rw [V21_82_13, B21_82_13_0]
  rw [if_pos (by decide)]
theorem K_84_15 {sc : Nat × (Nat → Int)} {μ : xM} : EV sc 21 [vR 84, vR 15] (SK, μ) = some (none, (SK, cp2 μ 16 0 85 0 61)) := by
  rw [V21_84_15, B21_84_15_0]
  rw [if_pos (by decide)]
theorem K_86_17 {sc : Nat × (Nat → Int)} {μ : xM} : EV sc 21 [vR 86, vR 17] (SK, μ) = some (none, (SK, cp2 μ 18 0 87 0 61)) := by
  rw [V21_86_17, B21_86_17_0]
  rw [if_pos (by decide)]
theorem K_88_19 {sc : Nat × (Nat → Int)} {μ : xM} : EV sc 21 [vR 88, vR 19] (SK, μ) = some (none, (SK, cp2 μ 20 0 89 0 61)) := by
  rw [V21_88_19, B21_88_19_0]
  rw [if_pos (by decide)]
theorem K_90_21 {sc : Nat × (Nat → Int)} {μ : xM} : EV sc 21 [vR 90, vR 21] (SK, μ) = some (none, (SK, cp2 μ 22 0 91 0 61)) := by
  rw [V21_90_21, B21_90_21_0]
  rw [if_pos (by decide)]
theorem K_93_24 {sc : Nat × (Nat → Int)} {μ : xM} : EV sc 21 [vR 93, vR 24] (SK, μ) = some (none, (SK, cp2 μ 25 0 94 0 244)) := by
  rw [V21_93_24, B21_93_24_0]
  rw [if_pos (by decide)]
theorem K_95_26 {sc : Nat × (Nat → Int)} {μ : xM} : EV sc 21 [vR 95, vR 26] (SK, μ) = some (none, (SK, cp2 μ 27 0 96 0 244)) := by
  rw [V21_95_26, B21_95_26_0]
  rw [if_pos (by decide)]
theorem K_97_28 {sc : Nat × (Nat → Int)} {μ : xM} : EV sc 21 [vR 97, vR 28] (SK, μ) = some (none, (SK, cp2 μ 29 0 98 0 244)) := by
  rw [V21_97_28, B21_97_28_0]
  rw [if_pos (by decide)]
theorem K_99_30 {sc : Nat × (Nat → Int)} {μ : xM} : EV sc 21 [vR 99, vR 30] (SK, μ) = some (none, (SK, cp2 μ 31 0 100 0 244)) := by
  rw [V21_99_30, B21_99_30_0]
  rw [if_pos (by decide)]
theorem K_101_32 {sc : Nat × (Nat → Int)} {μ : xM} : EV sc 21 [vR 101, vR 32] (SK, μ) = some (none, (SK, cp2 μ 33 0 102 0 244)) := by
  rw [V21_101_32, B21_101_32_0]
  rw [if_pos (by decide)]
theorem K_103_34 {sc : Nat × (Nat → Int)} {μ : xM} : EV sc 21 [vR 103, vR 34] (SK, μ) = some (none, (SK, cp2 μ 35 0 104 0 1464)) := by
  rw [V21_103_34, B21_103_34_0]
  rw [if_pos (by decide)]
theorem K_105_36 {sc : Nat × (Nat → Int)} {μ : xM} : EV sc 21 [vR 105, vR 36] (SK, μ) = some (none, (SK, cp2 μ 37 0 106 0 1464)) := by
  rw [V21_105_36, B21_105_36_0]
  rw [if_pos (by decide)]
theorem K_108_39 {sc : Nat × (Nat → Int)} {μ : xM} : EV sc 21 [vR 108, vR 39] (SK, μ) = some (none, (SK, cp2 μ 40 0 109 0 60)) := by
  rw [V21_108_39, B21_108_39_0]
  rw [if_pos (by decide)]
theorem K_111_42 {sc : Nat × (Nat → Int)} {μ : xM} : EV sc 21 [vR 111, vR 42] (SK, μ) = some (none, (SK, cp2 μ 43 0 112 0 8)) := by
  rw [V21_111_42, B21_111_42_0]
  rw [if_pos (by decide)]
theorem K_113_44 {sc : Nat × (Nat → Int)} {μ : xM} : EV sc 21 [vR 113, vR 44] (SK, μ) = some (none, (SK, cp2 μ 45 0 114 0 8)) := by
  rw [V21_113_44, B21_113_44_0]
  rw [if_pos (by decide)]
theorem K_115_46 {sc : Nat × (Nat → Int)} {μ : xM} : EV sc 21 [vR 115, vR 46] (SK, μ) = some (none, (SK, cp2 μ 47 0 116 0 8)) := by
  rw [V21_115_46, B21_115_46_0]
  rw [if_pos (by decide)]
theorem K_117_48 {sc : Nat × (Nat → Int)} {μ : xM} : EV sc 21 [vR 117, vR 48] (SK, μ) = some (none, (SK, cp2 μ 49 0 118 0 8)) := by
  rw [V21_117_48, B21_117_48_0]
  rw [if_pos (by decide)]
theorem K_119_50 {sc : Nat × (Nat → Int)} {μ : xM} : EV sc 21 [vR 119, vR 50] (SK, μ) = some (none, (SK, cp2 μ 51 0 120 0 8)) := by
  rw [V21_119_50, B21_119_50_0]
  rw [if_pos (by decide)]
theorem K_121_52 {sc : Nat × (Nat → Int)} {μ : xM} : EV sc 21 [vR 121, vR 52] (SK, μ) = some (none, (SK, cp2 μ 53 0 122 0 8)) := by
  rw [V21_121_52, B21_121_52_0]
  rw [if_pos (by decide)]
theorem K_124_55 {sc : Nat × (Nat → Int)} {μ : xM} : EV sc 21 [vR 124, vR 55] (SK, μ) = some (none, (SK, cp2 μ 56 0 125 0 2400)) := by
  rw [V21_124_55, B21_124_55_0]
  rw [if_pos (by decide)]
theorem K_126_57 {sc : Nat × (Nat → Int)} {μ : xM} : EV sc 21 [vR 126, vR 57] (SK, μ) = some (none, (SK, cp2 μ 58 0 127 0 2400)) := by
  rw [V21_126_57, B21_126_57_0]
  rw [if_pos (by decide)]
theorem K_129_60 {sc : Nat × (Nat → Int)} {μ : xM} : EV sc 21 [vR 129, vR 60] (SK, μ) = some (none, (SK, cp2 μ 61 0 130 0 24)) := by
  rw [V21_129_60, B21_129_60_0]
  rw [if_pos (by decide)]
theorem K_131_62 {sc : Nat × (Nat → Int)} {μ : xM} : EV sc 21 [vR 131, vR 62] (SK, μ) = some (none, (SK, cp2 μ 63 0 132 0 24)) := by
  rw [V21_131_62, B21_131_62_0]
  rw [if_pos (by decide)]
theorem K_133_64 {sc : Nat × (Nat → Int)} {μ : xM} : EV sc 21 [vR 133, vR 64] (SK, μ) = some (none, (SK, cp2 μ 65 0 134 0 24)) := by
  rw [V21_133_64, B21_133_64_0]
  rw [if_pos (by decide)]
theorem K_135_66 {sc : Nat × (Nat → Int)} {μ : xM} : EV sc 21 [vR 135, vR 66] (SK, μ) = some (none, (SK, cp2 μ 67 0 136 0 24)) := by
  rw [V21_135_66, B21_135_66_0]
  rw [if_pos (by decide)]
theorem K_137_68 {sc : Nat × (Nat → Int)} {μ : xM} : EV sc 21 [vR 137, vR 68] (SK, μ) = some (none, (SK, cp2 μ 69 0 138 0 24)) := by
  rw [V21_137_68, B21_137_68_0]
  rw [if_pos (by decide)]

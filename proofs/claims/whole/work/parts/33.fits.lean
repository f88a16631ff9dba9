/-! where an edit fits; fits -/
def mkS (m : Nat → Int) (s f i : Int) : Int := if 0 ≤ i ∧ i < m (12 + 8 * s + f).toNat then m (21004 + (320 * s + 40 * f + i)).toNat else 0
theorem mkS_in {m : Nat → Int} {s f i : Int} (h0 : 0 ≤ i) (h1 : i < m (12 + 8 * s + f).toNat) : mkS m s f i = m (21004 + (320 * s + 40 * f + i)).toNat := by
  unfold mkS
  rw [if_pos ⟨h0, h1⟩]
theorem mkS_out {m : Nat → Int} {s f i : Int} (h : i < 0 ∨ m (12 + 8 * s + f).toNat ≤ i) : mkS m s f i = 0 := by
  unfold mkS
  rw [if_neg (by omega)]
def fitG (m : Nat → Int) (s f ah bh out more am p : Int) : Prop := 0 ≤ p ∧ p + out ≤ m (12 + 8 * s + f).toNat ∧ m (12 + 8 * s + f).toNat - out + more ≤ 24 ∧ mkS m s f (p - 1) = ah ∧ mkS m s f (p + out) = bh ∧ ∀ i : Nat, (i : Int) < out → mkS m s f (p + i) = m (am + (i : Int)).toNat
def fitE (m : Nat → Int) (s e : Int) : Int → Prop := fitG m s (m (42084 + e).toNat) (m (42804 + e).toNat) (m (43044 + e).toNat) (m (42324 + e).toNat) (m (42564 + e).toNat) (43284 + 6 * e)
noncomputable def plc (P : Int → Prop) : Int := @dite Int (∃ p, P p) (Classical.propDecidable _) (fun h => Classical.choose h) (fun _ => -1)
theorem plc_none {P : Int → Prop} (h : ∀ p, ¬ P p) : plc P = -1 := by
  unfold plc
  rw [dif_neg (fun ⟨p, x⟩ => h p x)]
theorem plc_at {P : Int → Prop} {p : Int} (h : P p) (hu : ∀ q, P q → q = p) : plc P = p := by
  unfold plc
  rw [dif_pos ⟨p, h⟩]
  exact hu _ (Classical.choose_spec (⟨p, h⟩ : ∃ p, P p))
theorem plc_ok {P : Int → Prop} (h : ∀ p, P p → 0 ≤ p) (h2 : plc P ≠ -1) : P (plc P) := by
  by_cases e : ∃ p, P p
  · unfold plc
    rw [dif_pos e]
    exact Classical.choose_spec e
  · exact absurd (plc_none (fun p x => e ⟨p, x⟩)) h2
theorem mkL_get {m : Nat → Int} {a n : Int} {i : Nat} (h : i < n.toNat) : (mkL m a n)[i]? = some (m (a + (i : Int)).toNat) := by
  unfold mkL
  rw [List.getElem?_map, List.getElem?_range h]
  rfl
theorem chain_lt {ρ : Int → Int} {l : List Int} {i j : Nat} {a b : Int} (h : ychain ρ l) (hi : l[i]? = some a) (hj : l[j]? = some b) (hij : i < j) : ρ a < ρ b := by
  obtain ⟨i1, i2⟩ := List.getElem?_eq_some_iff.mp hi
  obtain ⟨j1, j2⟩ := List.getElem?_eq_some_iff.mp hj
  have := List.pairwise_iff_getElem.mp h i j i1 j1 hij
  rw [i2, j2] at this
  exact this
/-- no mark twice in a file -/
def ndF (m : Nat → Int) (s f : Int) : Prop := ∀ i j : Int, 0 ≤ i → i < m (12 + 8 * s + f).toNat → 0 ≤ j → j < m (12 + 8 * s + f).toNat → m (21004 + (320 * s + 40 * f + i)).toNat = m (21004 + (320 * s + 40 * f + j)).toNat → i = j
def fiL (m : Nat → Int) (s f : Int) : List Int := mkL m (21004 + (320 * s + 40 * f)) (m (12 + 8 * s + f).toNat)
theorem ndF_of {m : Nat → Int} {s f : Int} {ρ : Int → Int} (h : ychain ρ (fiL m s f)) : ndF m s f := by
  intro i j i0 i1 j0 j1 e
  have gi : (fiL m s f)[i.toNat]? = some (m (21004 + (320 * s + 40 * f + i)).toNat) := by
    unfold fiL
    rw [mkL_get (by omega), show 21004 + (320 * s + 40 * f) + (i.toNat : Int) = 21004 + (320 * s + 40 * f + i) by omega]
  have gj : (fiL m s f)[j.toNat]? = some (m (21004 + (320 * s + 40 * f + j)).toNat) := by
    unfold fiL
    rw [mkL_get (by omega), show 21004 + (320 * s + 40 * f) + (j.toNat : Int) = 21004 + (320 * s + 40 * f + j) by omega]
  by_cases h1 : i < j
  · have := chain_lt h gi gj (by omega)
    rw [e] at this
    omega
  · by_cases h2 : j < i
    · have := chain_lt h gj gi (by omega)
      rw [e] at this
      omega
    · omega
section
variable {sc : Nat × (Nat → Int)} {μ ν C : xM} {m : Nat → Int} {s s' f : Int}
theorem fit_one (hF : yF C m s s' f) (hN : ndF m s' f) {ah bh out more am p q : Int} (o0 : 0 ≤ out) (hp : fitG m s' f ah bh out more am p) (hq : fitG m s' f ah bh out more am q) : p = q := by
  obtain ⟨p0, p1, p2, p3, p4, p5⟩ := hp
  obtain ⟨q0, q1, q2, q3, q4, q5⟩ := hq
  have g := hF.2.2.2
  by_cases hp0 : p = 0 <;> by_cases hq0 : q = 0
  · omega
  · rw [mkS_out (by omega)] at p3
    rw [mkS_in (by omega) (by omega)] at q3
    have := (g (q - 1) (by omega) (by omega)).2.1
    omega
  · rw [mkS_out (by omega)] at q3
    rw [mkS_in (by omega) (by omega)] at p3
    have := (g (p - 1) (by omega) (by omega)).2.1
    omega
  · rw [mkS_in (by omega) (by omega)] at p3 q3
    have := hN (p - 1) (q - 1) (by omega) (by omega) (by omega) (by omega) (p3.trans q3.symm)
    omega
theorem K7_mk (hF : yF μ m s s' f) (s0 : 0 ≤ s) (s1 : s < 63) (f0 : 0 ≤ f) (f1 : f < 8) {i : Int} : EV sc 7 [vR 2, vI s, vI f, vI i] (SK, μ) = some (some (vI (mkS m s' f i)), (SK, μ)) := by
  obtain ⟨g1, g2, g3, g4⟩ := hF
  by_cases h : 0 ≤ i ∧ i < m (12 + 8 * s' + f).toNat
  · rw [mkS_in h.1 h.2, K7_in s0 s1 f0 f1 h.1 (by omega) (by omega), (g4 i h.1 h.2).1]
  · rw [mkS_out (by omega), K7_out s0 s1 f0 f1 (by omega)]
theorem K56 (hF : yF μ m s s' f) (hN : ndF m s' f) (s0 : 0 ≤ s) (s1 : s < 63) (f0 : 0 ≤ f) (f1 : f < 8) {e ah bh out more am : Int} (e0 : 0 ≤ e) (e1 : e < 244) (h25 : μ 25 e.toNat = f) (h27 : μ 27 e.toNat = ah) (h29 : μ 29 e.toNat = bh) (h31 : μ 31 e.toNat = out) (h33 : μ 33 e.toNat = more) (o0 : 0 ≤ out) (o6 : out ≤ 6) (r0 : 0 ≤ more) (r6 : more ≤ 6)
    (h35 : ∀ i : Int, 0 ≤ i → i < out → μ 35 (6 * e + i).toNat = m (am + i).toNat) : EV sc 56 [vR 23, vI e, vR 2, vI s] (SK, μ) = some (some (vI (plc (fitG m s' f ah bh out more am))), (SK, μ)) := by
  have hF' := hF
  obtain ⟨g1, g2, g3, g4⟩ := hF
  have k7 : ∀ i : Int, EV sc 7 [vR 2, vI s, vI f, vI i] (SK, μ) = some (some (vI (mkS m s' f i)), (SK, μ)) := fun i => K7_mk hF' s0 s1 f0 f1
  generalize hn : m (12 + 8 * s' + f).toNat = n at *
  have ina : ∀ (p : Int), 0 ≤ p → p ≤ 24 → ∀ (k j : Nat) (i : Int), i = j → j + k = out.toNat → (∀ i : Nat, (i : Int) < out → mkS m s' f (p + i) = m (am + (i : Int)).toNat) → AT sc 56 13 [vR 23, vI e, vR 2, vI s, vI f, vI out, vI n, vI p, vI 1, vI i] [] (SK, μ) = some (some (vI p), (SK, μ)) := by
    intro p p0 p1 k
    induction k with
    | zero =>
      intro j i hi h2 ha
      rw [B56_13]
      simp (disch := omega) only [B56_18, xcI_some, xcV_some, if_pos, if_neg, xg_in, wr_of, if_true, if_false, or_true, true_or]
    | succ k ih =>
      intro j i hi h2 ha
      have ih1 := ih (j + 1) (i + 1) (by omega) (by omega) ha
      have hj := ha j (by omega)
      rw [← hi] at hj
      have q := h35 i (by omega) (by omega)
      have ix : e * 6 + i = 6 * e + i := by omega
      rw [B56_13]
      simp (disch := omega) only [k7, hj, B56_14, G_34, gt_in, ix, q, B56_15, B56_17, ih1, xcI_some, xcV_some, if_pos, if_neg, xg_in, wr_of, if_true, if_false, or_true, true_or]
  have inb : ∀ (p : Int), 0 ≤ p → p ≤ 24 → ∀ (k j : Nat) (i : Int), i = j → j + k = out.toNat → (∃ b : Nat, j ≤ b ∧ (b : Int) < out ∧ mkS m s' f (p + b) ≠ m (am + (b : Int)).toNat) → AT sc 56 13 [vR 23, vI e, vR 2, vI s, vI f, vI out, vI n, vI p, vI 1, vI i] [] (SK, μ) = AT sc 56 19 [vR 23, vI e, vR 2, vI s, vI f, vI out, vI n, vI p, vN, vN] [] (SK, μ) := by
    intro p p0 p1 k
    induction k with
    | zero =>
      intro j i hi h2 ⟨b, b0, b1, _⟩
      omega
    | succ k ih =>
      intro j i hi h2 ⟨b, b0, b1, b2⟩
      have q := h35 i (by omega) (by omega)
      have ix : e * 6 + i = 6 * e + i := by omega
      by_cases hj : mkS m s' f (p + j) = m (am + (j : Int)).toNat
      · have ih1 := ih (j + 1) (i + 1) (by omega) (by omega) ⟨b, by
          by_cases e2 : b = j
          · rw [e2] at b2; exact absurd hj b2
          · omega, b1, b2⟩
        rw [← hi] at hj
        clear b2
        rw [B56_13]
        simp (disch := omega) only [k7, hj, B56_14, G_34, gt_in, ix, q, B56_15, B56_17, ih1, xcI_some, xcV_some, if_pos, if_neg, xg_in, wr_of, if_true, if_false, or_true, true_or]
      · rw [← hi] at hj
        clear b2
        rw [B56_13]
        simp (disch := omega) only [k7, B56_14, G_34, gt_in, ix, q, B56_15, B56_16, B56_17, xcI_some, xcV_some, if_pos, if_neg, xg_in, wr_of, if_true, if_false, or_true, true_or]
        rw [B56_13]
        by_cases h3 : i + 1 < out
        · simp (disch := omega) only [B56_18, xcI_some, xcV_some, if_pos, if_neg, xg_in, wr_of, if_true, if_false, or_true, true_or]
        · simp (disch := omega) only [B56_18, xcI_some, xcV_some, if_pos, if_neg, xg_in, wr_of, if_true, if_false, or_true, true_or]
  have out1 : ∀ (k : Nat) (p : Int), 0 ≤ p → p ≤ 25 → n - out + 1 ≤ p + k → (∀ q : Int, q < p → ¬ fitG m s' f ah bh out more am q) → n - out + more ≤ 24 → AT sc 56 6 [vR 23, vI e, vR 2, vI s, vI f, vI out, vI n, vI p, vN, vN] [] (SK, μ) = some (some (vI (plc (fitG m s' f ah bh out more am))), (SK, μ)) := by
    intro k
    induction k with
    | zero =>
      intro p p0 p1 h2 ha hl
      rw [plc_none (fun q x => by
        by_cases h3 : q < p
        · exact ha q h3 x
        · have := x.2.1
          rw [hn] at this
          omega), B56_6]
      simp (disch := omega) only [B56_20, xcI_some, xcV_some, if_pos, if_neg, xg_in, wr_of, if_true, if_false, or_true, true_or]
    | succ k ih =>
      intro p p0 p1 h2 ha hl
      by_cases h4 : n - out < p
      · rw [plc_none (fun q x => by
          by_cases h3 : q < p
          · exact ha q h3 x
          · have := x.2.1
            rw [hn] at this
            omega), B56_6]
        simp (disch := omega) only [B56_20, xcI_some, xcV_some, if_pos, if_neg, xg_in, wr_of, if_true, if_false, or_true, true_or]
      · by_cases ok : fitG m s' f ah bh out more am p
        · rw [plc_at ok (fun q x => fit_one hF' hN o0 x ok), B56_6]
          obtain ⟨q0, q1, q2, q3, q4, q5⟩ := ok
          have t := ina p p0 (by omega) out.toNat 0 0 rfl (by omega) q5
          simp (disch := omega) only [k7, q3, q4, B56_7, B56_8, B56_9, B56_10, B56_12, G_26, G_28, gt_in, h27, h29, t, xcI_some, xcV_some, if_pos, if_neg, xg_in, wr_of, if_true, if_false, or_true, true_or]
        · have ih1 := ih (p + 1) (by omega) (by omega) (by omega) (fun q hq => by
            by_cases e2 : q = p
            · rw [e2]; exact ok
            · exact ha q (by omega)) hl
          have t13 : AT sc 56 13 [vR 23, vI e, vR 2, vI s, vI f, vI out, vI n, vI p, vI 0, vI 0] [] (SK, μ) = AT sc 56 19 [vR 23, vI e, vR 2, vI s, vI f, vI out, vI n, vI p, vN, vN] [] (SK, μ) := by
            rw [B56_13]
            by_cases h3 : 0 < out
            · simp (disch := omega) only [B56_18, xcI_some, xcV_some, if_pos, if_neg, xg_in, wr_of, if_true, if_false, or_true, true_or]
            · simp (disch := omega) only [B56_18, xcI_some, xcV_some, if_pos, if_neg, xg_in, wr_of, if_true, if_false, or_true, true_or]
          rw [B56_6]
          by_cases q3 : mkS m s' f (p - 1) = ah
          · by_cases q4 : mkS m s' f (p + out) = bh
            · have t := inb p p0 (by omega) out.toNat 0 0 rfl (by omega) (by
                by_cases h5 : ∃ b : Nat, 0 ≤ b ∧ (b : Int) < out ∧ mkS m s' f (p + b) ≠ m (am + (b : Int)).toNat
                · exact h5
                · refine absurd (⟨p0, by rw [hn]; omega, by rw [hn]; omega, q3, q4, fun i hi => ?_⟩ : fitG m s' f ah bh out more am p) ok
                  by_cases h6 : mkS m s' f (p + i) = m (am + (i : Int)).toNat
                  · exact h6
                  · exact absurd ⟨i, by omega, hi, h6⟩ h5)
              simp (disch := omega) only [k7, q3, q4, B56_7, B56_8, B56_9, B56_10, B56_12, G_26, G_28, gt_in, h27, h29, t, B56_19, ih1, xcI_some, xcV_some, if_pos, if_neg, xg_in, wr_of, if_true, if_false, or_true, true_or]
            · simp (disch := omega) only [k7, q3, B56_7, B56_8, B56_9, B56_10, B56_11, B56_12, G_26, G_28, gt_in, h27, h29, t13, B56_19, ih1, xcI_some, xcV_some, if_pos, if_neg, xg_in, wr_of, if_true, if_false, or_true, true_or]
          · simp (disch := omega) only [k7, B56_7, B56_8, B56_11, B56_12, G_26, gt_in, h27, t13, B56_19, ih1, xcI_some, xcV_some, if_pos, if_neg, xg_in, wr_of, if_true, if_false, or_true, true_or]
  have k5 := K5 (sc := sc) (μ := μ) s0 s1 f0 f1
  rw [g1] at k5
  by_cases hl : n - out + more ≤ 24
  · have t := out1 26 0 (by omega) (by omega) (by omega) (fun q hq x => by have := x.1; omega) hl
    simp (disch := omega) only [V56, B56_0, B56_1, B56_2, B56_3, B56_4, B56_5, G_24, G_30, G_32, gt_in, h25, h31, h33, k5, t, xcI_some, xcV_some, if_pos, if_neg, xg_in, wr_of, if_true, if_false, or_true, true_or]
  · rw [plc_none (fun q x => by have := x.2.2.1; rw [hn] at this; omega)]
    simp (disch := omega) only [V56, B56_0, B56_1, B56_2, B56_3, B56_4, B56_5, G_24, G_30, G_32, gt_in, h25, h31, h33, k5, xcI_some, xcV_some, if_pos, if_neg, xg_in, wr_of, if_true, if_false, or_true, true_or]
theorem K46 {c n : Int} (hn : EV sc 33 [vR 6, vI c] (SK, μ) = some (some (vI n), (SK, μ))) (n0 : 0 ≤ n) (n4 : n ≤ 4) (c0 : 0 ≤ c) (c1 : c ≤ 60) {P : Int → Int} (hP : ∀ k : Int, 0 ≤ k → k < n → EV sc 56 [vR 23, vI (4 * c + k), vR 2, vI s] (SK, μ) = some (some (vI (P k)), (SK, μ))) :
    EV sc 46 [vR 6, vI c, vR 2, vI s] (SK, μ) = some (some (vI (bI (∀ k : Nat, (k : Int) < n → P k ≠ -1))), (SK, μ)) := by
  have l : ∀ (k j : Nat) (i : Int), i = j → j + k = n.toNat → (∀ k : Nat, k < j → P k ≠ -1) → AT sc 46 2 [vR 6, vI c, vR 2, vI s, vI n, vI i] [] (SK, μ) = some (some (vI (bI (∀ k : Nat, (k : Int) < n → P k ≠ -1))), (SK, μ)) := by
    intro k
    induction k with
    | zero =>
      intro j i hi e ha
      rw [B46_2, bI_t (show ∀ k : Nat, (k : Int) < n → P k ≠ -1 from fun k hk => ha k (by omega))]
      simp (disch := omega) only [B46_5, xcI_some, xcV_some, if_pos, if_neg, xg_in, wr_of, if_true, if_false, or_true, true_or]
    | succ k ih =>
      intro j i hi e ha
      have ix : c * 4 + i = 4 * c + i := by omega
      have hp := hP i (by omega) (by omega)
      rw [B46_2]
      by_cases ok : P i = -1
      · rw [bI_f (show ¬ ∀ k : Nat, (k : Int) < n → P k ≠ -1 from fun x => x j (by omega) (by rw [← hi]; exact ok))]
        rw [ok] at hp
        simp (disch := omega) only [ix, hp, B46_3, xcI_some, xcV_some, if_pos, if_neg, xg_in, wr_of, if_true, if_false, or_true, true_or]
      · have ih1 := ih (j + 1) (i + 1) (by omega) (by omega) (fun k hk => by
          by_cases e2 : k = j
          · rw [e2, ← hi]; exact ok
          · exact ha k (by omega))
        simp (disch := omega) only [ix, hp, B46_3, B46_4, ih1, xcI_some, xcV_some, if_pos, if_neg, xg_in, wr_of, if_true, if_false, or_true, true_or]
  have l0 := l n.toNat 0 0 rfl (by omega) (fun k h => absurd h (by omega))
  simp (disch := omega) only [V46, B46_0, hn, B46_1, l0, xcI_some, xcV_some, if_pos, if_neg, xg_in, wr_of, if_true, if_false, or_true, true_or]
theorem m187_11 (hν : ν 140 = m) (hF : yF C m s s' f) (s0 : 0 ≤ s') (s1 : s' < 64) (f0 : 0 ≤ f) (f1 : f < 8) {e ah bh out more am at' : Int} (e0 : 0 ≤ e) (e1 : e < 244) (hb : m (43044 + e).toNat = bh) (o0 : 0 ≤ out) (o6 : out ≤ 6) (r0 : 0 ≤ more) (r6 : more ≤ 6) (a0 : 0 ≤ at') (a1 : at' ≤ m (12 + 8 * s' + f).toNat + 1) (am0 : 0 ≤ am) (am1 : am < 50000)
    (hat : at' ≤ m (12 + 8 * s' + f).toNat → mkS m s' f (at' - 1) = ah) (hu : ∀ p, fitG m s' f ah bh out more (am + 6 * e) p → p = at') : AT sc 187 11 [vR 139, vI e, vI s', vN, vI f, vI (m (12 + 8 * s' + f).toNat), vI out, vI more, vI am, vI at', vN] [] (SK, ν) = some (some (vI (plc (fitG m s' f ah bh out more (am + 6 * e)))), (SK, ν)) := by
  obtain ⟨g1, g2, g3, g4⟩ := hF
  generalize hn : m (12 + 8 * s' + f).toNat = n at *
  by_cases h1 : n < at' + out
  · rw [plc_none (fun p x => by have := hu p x; have := x.2.1; rw [hn] at this; omega), B187_11]
    simp (disch := omega) only [B187_12, xcI_some, xcV_some, if_pos, if_neg, xg_in, wr_of, if_true, if_false, or_true, true_or]
  · by_cases h2 : 24 < n - out + more
    · rw [plc_none (fun p x => by have := x.2.2.1; rw [hn] at this; omega), B187_11]
      simp (disch := omega) only [B187_12, xcI_some, xcV_some, if_pos, if_neg, xg_in, wr_of, if_true, if_false, or_true, true_or]
    · have rd : ∀ i : Int, 0 ≤ i → i < n → mkS m s' f i = m (21004 + (320 * s' + 40 * f + i)).toNat := fun i i0 i1 => mkS_in i0 (by rw [hn]; exact i1)
      have l : ∀ (k j : Nat) (i : Int), i = j → j + k = out.toNat → (∀ i : Nat, i < j → mkS m s' f (at' + i) = m (am + 6 * e + (i : Int)).toNat) → AT sc 187 14 [vR 139, vI e, vI s', vN, vI f, vI n, vI out, vN, vI am, vI at', vI i] [] (SK, ν) = some (some (vI (plc (fitG m s' f ah bh out more (am + 6 * e)))), (SK, ν)) := by
        intro k
        induction k with
        | zero =>
          intro j i hi h3 ha
          have fin : AT sc 187 20 [vR 139, vI e, vN, vN, vN, vN, vN, vN, vN, vI at', vN] [vI (mkS m s' f (at' + out))] (SK, ν) = some (some (vI (plc (fitG m s' f ah bh out more (am + 6 * e)))), (SK, ν)) := by
            rw [B187_20]
            by_cases h4 : mkS m s' f (at' + out) = bh
            · rw [plc_at (show fitG m s' f ah bh out more (am + 6 * e) at' from ⟨a0, by rw [hn]; omega, by rw [hn]; omega, hat (by omega), h4, fun i hi => ha i (by omega)⟩) hu]
              simp (disch := omega) only [hν, hb, h4, B187_22, xcI_some, xcV_some, if_pos, if_neg, xg_in, wr_of, if_true, if_false, or_true, true_or]
            · rw [plc_none (fun p x => by have := hu p x; subst this; exact h4 x.2.2.2.2.1)]
              simp (disch := omega) only [hν, hb, B187_21, B187_22, xcI_some, xcV_some, if_pos, if_neg, xg_in, wr_of, if_true, if_false, or_true, true_or]
          rw [B187_14]
          by_cases h4 : at' + out < n
          · rw [rd (at' + out) (by omega) h4] at fin
            simp (disch := omega) only [B187_17, m167, B187_18, hν, fin, xcI_some, xcV_some, if_pos, if_neg, xg_in, wr_of, if_true, if_false, or_true, true_or]
          · rw [mkS_out (by omega)] at fin
            simp (disch := omega) only [B187_17, B187_19, fin, xcI_some, xcV_some, if_pos, if_neg, xg_in, wr_of, if_true, if_false, or_true, true_or]
        | succ k ih =>
          intro j i hi h3 ha
          have r := rd (at' + i) (by omega) (by omega)
          rw [B187_14]
          by_cases ok : mkS m s' f (at' + i) = m (am + 6 * e + i).toNat
          · have ih1 := ih (j + 1) (i + 1) (by omega) (by omega) (fun i' h' => by
              by_cases e2 : i' = j
              · rw [e2, ← hi]; exact ok
              · exact ha i' (by omega))
            rw [r] at ok
            simp (disch := omega) only [m167, B187_15, hν, ok, B187_16, ih1, xcI_some, xcV_some, if_pos, if_neg, xg_in, wr_of, if_true, if_false, or_true, true_or]
          · rw [plc_none (fun p x => by have := hu p x; subst this; exact ok (by have := x.2.2.2.2.2 j (by omega); rw [← hi] at this; exact this))]
            rw [r] at ok
            simp (disch := omega) only [m167, B187_15, hν, xcI_some, xcV_some, if_pos, if_neg, xg_in, wr_of, if_true, if_false, or_true, true_or]
      have l0 := l out.toNat 0 0 rfl (by omega) (fun i h => absurd h (by omega))
      rw [B187_11]
      simp (disch := omega) only [B187_13, l0, xcI_some, xcV_some, if_pos, if_neg, xg_in, wr_of, if_true, if_false, or_true, true_or]
theorem m187_7 (hν : ν 140 = m) (hF : yF C m s s' f) (hN : ndF m s' f) (s0 : 0 ≤ s') (s1 : s' < 64) (f0 : 0 ≤ f) (f1 : f < 8) {e ah bh out more am : Int} (e0 : 0 ≤ e) (e1 : e < 244) (hah : m (42804 + e).toNat = ah) (hb : m (43044 + e).toNat = bh) (o0 : 0 ≤ out) (o6 : out ≤ 6) (r0 : 0 ≤ more) (r6 : more ≤ 6) (am0 : 0 ≤ am) (am1 : am < 50000) :
    AT sc 187 7 [vR 139, vI e, vI s', vN, vI f, vI (m (12 + 8 * s' + f).toNat), vI out, vI more, vN, vN, vN] [vI am] (SK, ν) = some (some (vI (plc (fitG m s' f ah bh out more (am + 6 * e)))), (SK, ν)) := by
  have g4 := hF.2.2.2
  have g3 := hF.2.2.1
  have g2 := hF.2.1
  by_cases h0 : ah = 0
  · have t := m187_11 (sc := sc) (at' := 0) (ah := ah) hν hF s0 s1 f0 f1 e0 e1 hb o0 o6 r0 r6 (by omega) (by omega) am0 am1 (fun _ => by rw [mkS_out (by omega), h0]) (fun p x => by
      by_cases h1 : p = 0
      · exact h1
      · have x1 := x.1
        have x2 := x.2.1
        have x4 := x.2.2.2.1
        rw [mkS_in (by omega) (by omega)] at x4
        have := (g4 (p - 1) (by omega) (by omega)).2.1
        omega)
    rw [B187_7]
    simp (disch := omega) only [hν, hah, t, xcI_some, xcV_some, if_pos, if_neg, xg_in, wr_of, if_true, if_false, or_true, true_or]
  · have l : ∀ (k : Nat) (i : Int), 0 ≤ i → i + k = m (12 + 8 * s' + f).toNat → (∀ j : Int, 0 ≤ j → j < i → m (21004 + (320 * s' + 40 * f + j)).toNat ≠ ah) → ∃ a : Int, 0 ≤ a ∧ a ≤ m (12 + 8 * s' + f).toNat ∧ (∀ j : Int, 0 ≤ j → j < a → m (21004 + (320 * s' + 40 * f + j)).toNat ≠ ah) ∧ (a < m (12 + 8 * s' + f).toNat → m (21004 + (320 * s' + 40 * f + a)).toNat = ah) ∧
        AT sc 187 8 [vR 139, vI e, vI s', vN, vI f, vI (m (12 + 8 * s' + f).toNat), vI out, vI more, vI am, vI i, vN] [] (SK, ν) = AT sc 187 11 [vR 139, vI e, vI s', vN, vI f, vI (m (12 + 8 * s' + f).toNat), vI out, vI more, vI am, vI (a + 1), vN] [] (SK, ν) := by
      intro k
      induction k with
      | zero =>
        intro i i0 h1 ha
        refine ⟨i, i0, by omega, ha, fun x => absurd x (by omega), ?_⟩
        rw [B187_8]
        simp (disch := omega) only [B187_10, xcI_some, xcV_some, if_pos, if_neg, xg_in, wr_of, if_true, if_false, or_true, true_or]
      | succ k ih =>
        intro i i0 h1 ha
        by_cases h2 : m (21004 + (320 * s' + 40 * f + i)).toNat = ah
        · refine ⟨i, i0, by omega, ha, fun _ => h2, ?_⟩
          rw [B187_8]
          simp (disch := omega) only [m167, B187_9, hν, hah, h2, B187_10, xcI_some, xcV_some, if_pos, if_neg, xg_in, wr_of, if_true, if_false, or_true, true_or]
        · obtain ⟨a, a0, a1, a2, a3, a4⟩ := ih (i + 1) (by omega) (by omega) (fun j j0 j1 => by
            by_cases e2 : j = i
            · rw [e2]; exact h2
            · exact ha j j0 (by omega))
          refine ⟨a, a0, a1, a2, a3, ?_⟩
          clear ha ih a2 a3
          rw [B187_8]
          simp (disch := omega) only [m167, B187_9, hν, hah, a4, xcI_some, xcV_some, if_pos, if_neg, xg_in, wr_of, if_true, if_false, or_true, true_or]
    obtain ⟨a, a0, a1, a2, a3, a4⟩ := l (m (12 + 8 * s' + f).toNat).toNat 0 (by omega) (by omega) (fun j j0 j1 => absurd j1 (by omega))
    have t := m187_11 (sc := sc) (at' := a + 1) (ah := ah) hν hF s0 s1 f0 f1 e0 e1 hb o0 o6 r0 r6 (by omega) (by omega) am0 am1 (fun x => by rw [show a + 1 - 1 = a by omega, mkS_in a0 (by omega)]; exact a3 (by omega)) (fun p x => by
      have x1 := x.1
      have x2 := x.2.1
      have x4 := x.2.2.2.1
      by_cases h1 : p = 0
      · rw [mkS_out (by omega)] at x4
        exact absurd x4.symm h0
      · rw [mkS_in (by omega) (by omega)] at x4
        by_cases h2 : a < m (12 + 8 * s' + f).toNat
        · have := hN (p - 1) a (by omega) (by omega) a0 h2 (x4.trans (a3 h2).symm)
          omega
        · exact absurd x4 (a2 (p - 1) (by omega) (by omega)))
    rw [B187_7]
    clear a2 a3 l
    simp (disch := omega) only [hν, hah, a4, t, xcI_some, xcV_some, if_pos, if_neg, xg_in, wr_of, if_true, if_false, or_true, true_or]
theorem m187_f (hν : ν 140 = m) {e : Int} (hF : yF C m s s' (m (42084 + e).toNat)) (hN : ndF m s' (m (42084 + e).toNat)) (s0 : 0 ≤ s') (s1 : s' < 64) (e0 : 0 ≤ e) (e1 : e < 240) (hE : yEe C m e) : EV sc 187 [vR 139, vI e, vI s', vI 0] (SK, ν) = some (some (vI (plc (fitE m s' e))), (SK, ν)) := by
  obtain ⟨_, ⟨f1, f2, f3, f4, f5, f6, f7, f8, f9, f10⟩, _, _⟩ := hE
  have t := m187_7 (sc := sc) hν hF hN s0 s1 f1 (by omega) e0 (by omega) rfl rfl f3 f4 f5 f6 (show (0 : Int) ≤ 43284 by omega) (by omega)
  unfold fitE
  simp (disch := omega) only [V187, B187_0, B187_1, B187_2, B187_3, B187_4, B187_5, B187_6, hν, m166, t, xcI_some, xcV_some, if_pos, if_neg, xg_in, wr_of, if_true, if_false, or_true, true_or]
theorem m187_b (hν : ν 140 = m) {e : Int} (hF : yF C m s s' (m (42084 + e).toNat)) (hN : ndF m s' (m (42084 + e).toNat)) (s0 : 0 ≤ s') (s1 : s' < 64) (e0 : 0 ≤ e) (e1 : e < 240) (hE : yEe C m e) : EV sc 187 [vR 139, vI e, vI s', vI 1] (SK, ν) = some (some (vI (plc (fitG m s' (m (42084 + e).toNat) (m (42804 + e).toNat) (m (43044 + e).toNat) (m (42564 + e).toNat) (m (42324 + e).toNat) (46164 + 6 * e)))), (SK, ν)) := by
  obtain ⟨_, ⟨f1, f2, f3, f4, f5, f6, f7, f8, f9, f10⟩, _, _⟩ := hE
  have t := m187_7 (sc := sc) hν hF hN s0 s1 f1 (by omega) e0 (by omega) rfl rfl f5 f6 f3 f4 (show (0 : Int) ≤ 46164 by omega) (by omega)
  simp (disch := omega) only [V187, B187_0, B187_1, B187_2, B187_3, B187_4, B187_5, B187_6, hν, m166, t, xcI_some, xcV_some, if_pos, if_neg, xg_in, wr_of, if_true, if_false, or_true, true_or]
theorem K56e (hE : yEe μ m f) {e : Int} (he : f = e) (hF : yF μ m s s' (m (42084 + e).toNat)) (hN : ndF m s' (m (42084 + e).toNat)) (s0 : 0 ≤ s) (s1 : s < 63) (e0 : 0 ≤ e) (e1 : e < 240) : EV sc 56 [vR 23, vI e, vR 2, vI s] (SK, μ) = some (some (vI (plc (fitE m s' e))), (SK, μ)) := by
  subst he
  obtain ⟨⟨g1, g2, g3, g4, g5⟩, ⟨f1, f2, f3, f4, f5, f6, f7, f8, f9, f10⟩, p1, p2⟩ := hE
  exact K56 hF hN s0 s1 f1 (by omega) e0 (by omega) g1 g2 g3 g4 g5 f3 f4 f5 f6 (fun i i0 i1 => (p1 i i0 i1).1)
/-- whether a change fits -/
def fitC (m : Nat → Int) (s c : Int) : Prop := ∀ k : Nat, (k : Int) < m (41904 + c).toNat → plc (fitE m s (4 * c + (k : Int))) ≠ -1
theorem K46c (hA : yA μ m) (hE : yE μ m) (hF : ∀ f : Int, 0 ≤ f → f < 8 → yF μ m s s' f) (hN : ∀ f : Int, 0 ≤ f → f < 8 → ndF m s' f) (s0 : 0 ≤ s) (s1 : s < 63) {c : Int} (c0 : 0 ≤ c) (c1 : c < m 7) : EV sc 46 [vR 6, vI c, vR 2, vI s] (SK, μ) = some (some (vI (bI (fitC m s' c))), (SK, μ)) := by
  have h7 := hA.2.1
  have hn := (hA.2.2.2 c c0 c1).2.1
  exact K46 (P := fun k => plc (fitE m s' (4 * c + k))) (q33 hA c0 c1) hn.1 hn.2 c0 (by omega) (fun k k0 k1 => by
    have he := (hE c c0 c1).1 k k0 k1
    have hf := he.2.1
    exact K56e he rfl (hF _ hf.1 (by omega)) (hN _ hf.1 (by omega)) s0 s1 (by omega) (by omega))
theorem m188 (hν : ν 140 = m) (hA : yA C m) (hE : yE C m) (hF : ∀ f : Int, 0 ≤ f → f < 8 → yF C m s s' f) (hN : ∀ f : Int, 0 ≤ f → f < 8 → ndF m s' f) (s0 : 0 ≤ s') (s1 : s' < 64) {c : Int} (c0 : 0 ≤ c) (c1 : c < m 7) : EV sc 188 [vR 139, vI c, vI s'] (SK, ν) = some (some (vI (bI (fitC m s' c))), (SK, ν)) := by
  have h7 := hA.2.1
  have hn := (hA.2.2.2 c c0 c1).2.1
  have l : ∀ (k j : Nat) (x : Int) (Q : Prop), x = 4 * c + j → j + k = (m (41904 + c).toNat).toNat → (Q ↔ ∀ k : Nat, k < j → plc (fitE m s' (4 * c + (k : Int))) ≠ -1) → AT sc 188 1 [vR 139, vI c, vI s', vI (bI Q), vI x] [] (SK, ν) = some (some (vI (bI (fitC m s' c))), (SK, ν)) := by
    intro k
    induction k with
    | zero =>
      intro j x Q hx e hQ
      rw [B188_1, bI_iff (show fitC m s' c ↔ Q by
        rw [hQ]
        exact ⟨fun h k hk => h k (by omega), fun h k hk => h k (by omega)⟩)]
      clear hQ
      simp (disch := omega) only [hν, B188_5, xcI_some, xcV_some, if_pos, if_neg, xg_in, wr_of, if_true, if_false, or_true, true_or]
      exact if_pos (bI_if rfl)
    | succ k ih =>
      intro j x Q hx e hQ
      have he := (hE c c0 c1).1 (j : Int) (by omega) (by omega)
      rw [← hx] at he
      have hf := he.2.1
      have t := m187_f (sc := sc) hν (hF _ hf.1 (by omega)) (hN _ hf.1 (by omega)) s0 s1 (show 0 ≤ x by omega) (by omega) he
      rw [B188_1]
      by_cases q : Q
      · by_cases ok : plc (fitE m s' x) = -1
        · have ih1 := ih (j + 1) (x + 1) False (by omega) (by omega) ⟨False.elim, fun h => h j (by omega) (by rw [← hx]; exact ok)⟩
          rw [bI_f id] at ih1
          rw [bI_t q]
          rw [ok] at t
          clear hQ
          simp (disch := omega) only [hν, t, B188_2, B188_3, B188_4, ih1, xcI_some, xcV_some, if_pos, if_neg, xg_in, wr_of, if_true, if_false, or_true, true_or]
        · have ih1 := ih (j + 1) (x + 1) True (by omega) (by omega) ⟨fun _ k hk => by
            by_cases e2 : k = j
            · rw [e2, ← hx]; exact ok
            · exact hQ.mp q k (by omega), fun _ => trivial⟩
          rw [bI_t trivial] at ih1
          rw [bI_t q]
          clear hQ
          simp (disch := omega) only [hν, t, B188_2, B188_4, ih1, xcI_some, xcV_some, if_pos, if_neg, xg_in, wr_of, if_true, if_false, or_true, true_or]
      · have ih1 := ih (j + 1) (x + 1) Q (by omega) (by omega) ⟨fun y => absurd y q, fun h => hQ.mpr (fun k hk => h k (by omega))⟩
        rw [bI_f q] at ih1 ⊢
        clear hQ
        simp (disch := omega) only [hν, B188_3, B188_4, ih1, xcI_some, xcV_some, if_pos, if_neg, xg_in, wr_of, if_true, if_false, or_true, true_or]
  have l0 := l (m (41904 + c).toNat).toNat 0 (4 * c) True (by omega) (by omega) ⟨fun _ k hk => absurd hk (by omega), fun _ => trivial⟩
  rw [bI_t trivial] at l0
  simp (disch := omega) only [V188, B188_0, l0, xcI_some, xcV_some, if_pos, if_neg, xg_in, wr_of, if_true, if_false, or_true, true_or]
theorem yO_nd (h : yO m) (s0 : 0 ≤ s) (s1 : s ≤ m 0) (f0 : 0 ≤ f) (f1 : f < 8) : ndF m s f := by
  obtain ⟨ρ, o1, o2⟩ := h
  exact ndF_of (o1 s f s0 s1 f0 f1)
theorem op_fits (h : yAll μ) {c : Int} : yOp sc 142 194 [vI c] μ := by
  obtain ⟨⟨a1, a2, a3, a4, a5, a6, a7, a8, a9, a10, a11⟩, hk⟩ := id h
  have n6 := a1.1
  have n3 := a1.2.1
  have n5 := a2.2
  have n10 : 0 ≤ μ 140 10 ∧ μ 140 10 ≤ 600 := ⟨a3.1, a3.2.1⟩
  have n7 : 0 ≤ μ 140 7 ∧ μ 140 7 ≤ 60 := ⟨a4.1, a4.2.1⟩
  have n0 : 0 ≤ μ 140 0 ∧ μ 140 0 ≤ 60 ∧ μ 2 3 = μ 140 0 := a6.1
  have n1 : 0 ≤ μ 140 1 ∧ μ 140 1 ≤ 1152 ∧ μ 2 4 = μ 140 1 := a6.2.1
  have n8 : 0 ≤ μ 140 8 ∧ μ 140 8 ≤ 60 := ⟨a7.1, a7.2.1⟩
  have n9 := a8.1
  have c7 := a4.2.2.1
  have c8 := a7.2.2.1
  have c10 := a3.2.2.1
  by_cases hc : 0 ≤ c ∧ c < μ 140 7
  · have hF : ∀ f : Int, 0 ≤ f → f < 8 → yF μ (μ 140) (μ 140 0) (μ 140 0) f := fun f f0 f1 => a6.2.2 (μ 140 0) f n0.1 (Int.le_refl _) f0 f1
    have hN : ∀ f : Int, 0 ≤ f → f < 8 → ndF (μ 140) (μ 140 0) f := fun f f0 f1 => yO_nd a9 n0.1 (Int.le_refl _) f0 f1
    have k := K46c (sc := sc) a4 a5 hF hN n0.1 (by omega) hc.1 hc.2
    refine .same h (bI (fitC (μ 140) (μ 140 0) c)) ?_ fun ν hν => ?_
    · simp (disch := omega) only [V142, B142_0, B142_1, B142_2, B142_3, V1, B1_0, cChange_t, n0.2.2, k, xcI_some, xcV_some, if_pos, if_neg, xg_in, wr_of, if_true, if_false, or_true, true_or]
      rcases bI_01 (P := fitC (μ 140) (μ 140 0) c) with g | g <;> rw [g.2] <;> simp (disch := omega) only [V160, B160_0, B160_1, B160_2, B142_4, B142_5, xcI_some, xcV_some, if_pos, if_neg, xg_in, wr_of, if_true, if_false, or_true, true_or]
    · have ν0 : up2 ν 139 3 0 140 = μ 140 := by rw [up2_k (by omega)]; exact hν
      have k2 := m188 (sc := sc) ν0 a4 a5 hF hN n0.1 (by omega) hc.1 hc.2
      simp (disch := omega) only [V194, B194_0, B194_1, B194_2, mChange_t' (congrFun hν 7), up2_ne, hν, k2, xcI_some, xcV_some, if_pos, if_neg, xg_in, wr_of, if_true, if_false, or_true, true_or]
      rcases bI_01 (P := fitC (μ 140) (μ 140 0) c) with g | g <;> rw [g.2] <;> simp (disch := omega) only [B194_3, B194_4, B194_5, xcI_some, xcV_some, if_pos, if_neg, xg_in, wr_of, if_true, if_false, or_true, true_or]
  · refine .same h (-2) ?_ fun ν hν => ?_
    · simp (disch := omega) only [V142, B142_0, B142_1, B142_2, B142_3, B142_4, B142_5, cChange_f, xcI_some, xcV_some, if_pos, if_neg, xg_in, wr_of, if_true, if_false, or_true, true_or]
    · simp (disch := omega) only [V194, B194_0, B194_1, B194_2, B194_3, B194_4, B194_5, mChange_f' (congrFun hν 7), xcI_some, xcV_some, if_pos, if_neg, xg_in, wr_of, if_true, if_false, or_true, true_or]
end

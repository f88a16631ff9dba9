/-! cells filled one behind the other; an edit's lines -/
def fl1 (m : Nat → Int) (b n : Nat) (g : Nat → Int) : Nat → Int := fun j => if b ≤ j ∧ j < b + n then g (j - b) else m j
def fl2 (μ : xM) (a b n : Nat) (g : Nat → Int) : xM := fun k j => if k = a ∧ b ≤ j ∧ j < b + n then g (j - b) else μ k j
theorem fl1_in {m : Nat → Int} {b n j : Nat} {g : Nat → Int} (h0 : b ≤ j) (h1 : j < b + n) : fl1 m b n g j = g (j - b) := if_pos ⟨h0, h1⟩
theorem fl1_out {m : Nat → Int} {b n j : Nat} {g : Nat → Int} (h : j < b ∨ b + n ≤ j) : fl1 m b n g j = m j := if_neg (by omega)
theorem fl2_in {μ : xM} {a b n j k : Nat} {g : Nat → Int} (hk : k = a) (h0 : b ≤ j) (h1 : j < b + n) : fl2 μ a b n g k j = g (j - b) := if_pos ⟨hk, h0, h1⟩
theorem fl2_out {μ : xM} {a b n j k : Nat} {g : Nat → Int} (h : k ≠ a ∨ j < b ∨ b + n ≤ j) : fl2 μ a b n g k j = μ k j := if_neg (by omega)
theorem fl2_k {μ : xM} {a b n k : Nat} {g : Nat → Int} (h : k ≠ a) : fl2 μ a b n g k = μ k := by
  funext j
  exact fl2_out (Or.inl h)
theorem fl2_row {μ : xM} {k b n : Nat} {g : Nat → Int} : fl2 μ k b n g k = fl1 (μ k) b n g := by
  funext j
  by_cases h : b ≤ j ∧ j < b + n
  · rw [fl2_in rfl h.1 h.2, fl1_in h.1 h.2]
  · rw [fl2_out (by omega), fl1_out (by omega)]
theorem fl2_0 {μ : xM} {a b : Nat} {g : Nat → Int} : fl2 μ a b 0 g = μ := by
  funext k j
  exact fl2_out (by omega)
theorem fl2_step {μ : xM} {a b n i : Nat} {g : Nat → Int} {v : Int} (hi : i = b + n) (hv : v = g n) : up2 (fl2 μ a b n g) a i v = fl2 μ a b (n + 1) g := by
  funext k j
  by_cases e : k = a
  · subst e
    by_cases e2 : j = i
    · subst e2
      rw [up2_eq, fl2_in rfl (by omega) (by omega), hv, show j - b = n by omega]
    · rw [up2_ne (by omega)]
      by_cases h : b ≤ j ∧ j < b + n
      · rw [fl2_in rfl h.1 h.2, fl2_in rfl (by omega) (by omega)]
      · rw [fl2_out (by omega), fl2_out (by omega)]
  · rw [up2_ne (by omega), fl2_out (by omega), fl2_out (by omega)]
theorem fl2_up {μ : xM} {a b n k i : Nat} {g : Nat → Int} {v : Int} (h : k ≠ a ∨ i < b ∨ b + n ≤ i) : up2 (fl2 μ a b n g) k i v = fl2 (up2 μ k i v) a b n g := by
  funext k' j
  by_cases e : k' = k ∧ j = i
  · obtain ⟨e1, e2⟩ := e
    subst e1
    subst e2
    rw [up2_eq, fl2_out h, up2_eq]
  · rw [up2_ne (by omega)]
    by_cases h2 : k' = a ∧ b ≤ j ∧ j < b + n
    · rw [fl2_in h2.1 h2.2.1 h2.2.2, fl2_in h2.1 h2.2.1 h2.2.2]
    · rw [fl2_out (by omega), fl2_out (by omega), up2_ne (by omega)]
theorem up2_up2 {μ : xM} {k i : Nat} {v w : Int} : up2 (up2 μ k i v) k i w = up2 μ k i w := by
  funext k' j
  by_cases e : k' = k ∧ j = i
  · obtain ⟨e1, e2⟩ := e
    subst e1
    subst e2
    rw [up2_eq, up2_eq]
  · rw [up2_ne (by omega), up2_ne (by omega), up2_ne (by omega)]
theorem up2_comm {μ : xM} {k i k' i' : Nat} {v w : Int} (h : k ≠ k' ∨ i ≠ i') : up2 (up2 μ k i v) k' i' w = up2 (up2 μ k' i' w) k i v := by
  funext k'' j
  by_cases e : k'' = k ∧ j = i
  · obtain ⟨e1, e2⟩ := e
    subst e1
    subst e2
    rw [up2_ne (by omega), up2_eq, up2_eq]
  · by_cases e' : k'' = k' ∧ j = i'
    · obtain ⟨e1, e2⟩ := e'
      subst e1
      subst e2
      rw [up2_eq, up2_ne (by omega), up2_eq]
    · rw [up2_ne (by omega), up2_ne (by omega), up2_ne (by omega), up2_ne (by omega)]
theorem frC.fl {μ : xM} {k b n : Nat} {g : Nat → Int} (h : 1 ≤ k ∧ k ≤ 69) : frC μ (fl2 μ k b n g) := fun j hj => fl2_k (by omega)
theorem frM.fl {μ : xM} {k b n : Nat} {g : Nat → Int} (h : k = 140 ∨ k = 142 ∨ k = 143) : frM μ (fl2 μ k b n g) := ⟨fun j hj => fl2_k (by omega), fl2_out (by omega)⟩
theorem frR.fl {μ : xM} {k b n : Nat} {g : Nat → Int} (h : k = 140) : frR μ (fl2 μ k b n g) := fun j hj => fl2_k (by omega)
theorem yF_eq {C C' : xM} {m : Nat → Int} {s s' f : Int} (h : yF C m s s' f) (h3 : C' 3 = C 3) (h4 : C' 4 = C 4) (h5 : C' 5 = C 5) : yF C' m s s' f := by
  unfold yF at h ⊢
  rw [h3, h4, h5]
  exact h
section
variable {sc : Nat × (Nat → Int)} {μ ν C : xM} {m : Nat → Int} {s s' f : Int}
theorem K39 (hA : yA μ m) (hE : yE μ m) {c : Int} (c0 : 0 ≤ c) (c1 : c < m 7) : EV sc 39 [vR 6, vI c, vI f] (SK, μ) = some (some (vI (bI (hsF m c f))), (SK, μ)) := by
  have h7 := hA.2.1
  have hn := (hA.2.2.2 c c0 c1).2.1
  have q := q33 (sc := sc) hA c0 c1
  have l : ∀ (k j : Nat) (i : Int), i = j → j + k = (m (41904 + c).toNat).toNat → (∀ k : Nat, k < j → m (42084 + (4 * c + (k : Int))).toNat ≠ f) → AT sc 39 2 [vR 6, vI c, vI f, vI (m (41904 + c).toNat), vI i] [] (SK, μ) = some (some (vI (bI (hsF m c f))), (SK, μ)) := by
    intro k
    induction k with
    | zero =>
      intro j i hi e ha
      rw [B39_2, bI_f (show ¬ hsF m c f from fun ⟨k, k1, x2⟩ => ha k (by omega) x2)]
      simp (disch := omega) only [B39_5, xcI_some, xcV_some, if_pos, if_neg, xg_in, wr_of, if_true, if_false, or_true, true_or]
    | succ k ih =>
      intro j i hi e ha
      have he := (hE c c0 c1).1 i (by omega) (by omega)
      have ix : c * 4 + i = 4 * c + i := by omega
      have g25 := he.1.1
      rw [B39_2]
      by_cases ok : m (42084 + (4 * c + i)).toNat = f
      · rw [bI_t (show hsF m c f from ⟨j, by omega, by rw [← hi]; exact ok⟩)]
        clear ha ih
        simp (disch := omega) only [ix, V52, B52_0, B52_1, G_24, gt_in, g25, ok, B39_3, xcI_some, xcV_some, if_pos, if_neg, xg_in, wr_of, if_true, if_false, or_true, true_or]
      · have ih1 := ih (j + 1) (i + 1) (by omega) (by omega) (fun i' h' => by
          by_cases e3 : i' = j
          · rw [e3, ← hi]; exact ok
          · exact ha i' (by omega))
        clear ha ih
        simp (disch := omega) only [ix, V52, B52_0, B52_1, G_24, gt_in, g25, B39_3, B39_4, ih1, xcI_some, xcV_some, if_pos, if_neg, xg_in, wr_of, if_true, if_false, or_true, true_or]
  have l0 := l (m (41904 + c).toNat).toNat 0 0 rfl (by omega) (fun i h => absurd h (by omega))
  simp (disch := omega) only [V39, B39_0, q, B39_1, l0, xcI_some, xcV_some, if_pos, if_neg, xg_in, wr_of, if_true, if_false, or_true, true_or]
/-- a new edit, without its lines -/
def ceS (μ : xM) (c e f t p n : Int) : xM := up2 (up2 (up2 (up2 μ 25 e.toNat f) 31 e.toNat t) 33 e.toNat p) 22 c.toNat (n + 1)
theorem K40 {c f t p n e : Int} (c0 : 0 ≤ c) (c1 : c < 60) (n0 : 0 ≤ n) (n4 : n < 4) (hn : μ 22 c.toNat = n) (he : e = 4 * c + n) : EV sc 40 [vR 6, vI c, vI f, vI t, vI p] (SK, μ) = some (some (vI e), (SK, ceS μ c e f t p n)) := by
  have ix : c * 4 + n = e := by omega
  have r : ∀ μ1 : xM, μ1 22 c.toNat = n → EV sc 33 [vR 6, vI c] (SK, μ1) = some (some (vI n), (SK, μ1)) := fun μ1 h1 => by
    rw [V33, B33_0, G_21, xcI_some, B33_1, gt_in c0 (by omega), h1]
  have r1 := r μ hn
  have r2 := r (up2 (up2 (up2 μ 25 e.toNat f) 31 e.toNat t) 33 e.toNat p) (by simp (disch := omega) only [up2_ne, hn])
  simp (disch := omega) only [V40, B40_0, B40_1, B40_2, B40_3, B40_4, V51, B51_0, B51_1, B51_2, B51_3, S_7, S_9, S_11, S_13, S_15, S_17, S_19, S_21, S_24, S_26, S_28, S_30, S_32, S_34, S_36, S_39, S_42, S_44, S_46, S_48, S_50, S_52, S_55, S_57, S_60, S_62, S_64, S_66, S_68, st_in, r1, ix, r2, xcI_some, xcV_some, if_pos, if_neg, xg_in, wr_of, if_true, if_false, or_true, true_or]
  rfl
/-- taking lines -/
def tkS (μ : xM) (m : Nat → Int) (s f a t e : Int) (n : Nat) : xM := fl2 (up2 (up2 μ 27 e.toNat (mkS m s f (a - 1))) 29 e.toNat (mkS m s f (a + t))) 35 (6 * e).toNat n (fun i => mkS m s f (a + (i : Int)))
theorem K53 {e a t : Int} (hF : yF μ m s s f) (s0 : 0 ≤ s) (s1 : s < 63) (f0 : 0 ≤ f) (f1 : f < 8) (e0 : 0 ≤ e) (e1 : e < 240) (h25 : μ 25 e.toNat = f) (h31 : μ 31 e.toNat = t) (t0 : 0 ≤ t) (t1 : t ≤ 6) (hl : μ 2 3 = s) (a0 : 0 ≤ a) (a1 : a ≤ 24) : EV sc 53 [vR 23, vI e, vR 2, vI a] (SK, μ) = some (none, (SK, tkS μ m s f a t e t.toNat)) := by
  have k7 : ∀ (μ1 : xM) (i : Int), μ1 3 = μ 3 → μ1 4 = μ 4 → μ1 5 = μ 5 → EV sc 7 [vR 2, vI s, vI f, vI i] (SK, μ1) = some (some (vI (mkS m s f i)), (SK, μ1)) := fun μ1 i h3 h4 h5 => K7_mk (yF_eq hF h3 h4 h5) s0 s1 f0 f1
  have l : ∀ (k j : Nat) (i : Int), i = j → j + k = t.toNat → AT sc 53 9 [vR 23, vI e, vR 2, vI a, vI f, vI t, vI i] [] (SK, tkS μ m s f a t e j) = some (none, (SK, tkS μ m s f a t e t.toNat)) := by
    intro k
    induction k with
    | zero =>
      intro j i hi e2
      rw [B53_9]
      simp (disch := omega) only [B53_13, xcI_some, xcV_some, if_pos, if_neg, xg_in, wr_of, if_true, if_false, or_true, true_or]
      rw [show j = t.toNat by omega]
    | succ k ih =>
      intro j i hi e2
      have ih1 := ih (j + 1) (i + 1) (by omega) (by omega)
      have r := k7 (tkS μ m s f a t e j) (a + i) (by unfold tkS; rw [fl2_k (by omega), up2_k (by omega), up2_k (by omega)]) (by unfold tkS; rw [fl2_k (by omega), up2_k (by omega), up2_k (by omega)]) (by unfold tkS; rw [fl2_k (by omega), up2_k (by omega), up2_k (by omega)])
      have u : up2 (tkS μ m s f a t e j) 35 (6 * e + i).toNat (mkS m s f (a + i)) = tkS μ m s f a t e (j + 1) := by
        unfold tkS
        exact fl2_step (by omega) (by rw [hi])
      have h3 : tkS μ m s f a t e j 2 3 = s := by
        unfold tkS
        rw [fl2_out (by omega), up2_ne (by omega), up2_ne (by omega), hl]
      have ix : e * 6 + i = 6 * e + i := by omega
      rw [B53_9]
      simp (disch := omega) only [V1, B1_0, h3, ix, B53_10, r, B53_11, S_34, st_in, u, B53_12, ih1, xcI_some, xcV_some, if_pos, if_neg, xg_in, wr_of, if_true, if_false, or_true, true_or]
  have l0 := l t.toNat 0 0 rfl (by omega)
  have e00 : tkS μ m s f a t e 0 = up2 (up2 μ 27 e.toNat (mkS m s f (a - 1))) 29 e.toNat (mkS m s f (a + t)) := by
    unfold tkS
    exact fl2_0
  rw [e00] at l0
  have r1 := k7 μ (a - 1) rfl rfl rfl
  have r2 := k7 (up2 μ 27 e.toNat (mkS m s f (a - 1))) (a + t) (up2_k (by omega)) (up2_k (by omega)) (up2_k (by omega))
  simp (disch := omega) only [V53, B53_0, B53_1, B53_2, B53_3, B53_4, B53_5, B53_6, B53_7, B53_8, V1, B1_0, G_24, G_30, gt_in, h25, h31, hl, r1, S_26, S_28, st_in, up2_ne, r2, l0, xcI_some, xcV_some, if_pos, if_neg, xg_in, wr_of, if_true, if_false, or_true, true_or]
/-- putting lines -/
def ptS (μ : xM) (M v e : Int) (n : Nat) : xM := fl2 (fl2 (up2 μ 2 4 (M + n)) 5 (M + 1).toNat n (fun i => v + (i : Int))) 37 (6 * e).toNat n (fun i => M + 1 + (i : Int))
theorem K54 {e p v M : Int} (e0 : 0 ≤ e) (e1 : e < 240) (h33 : μ 33 e.toNat = p) (p0 : 0 ≤ p) (p1 : p ≤ 4) (hM : μ 2 4 = M) (M0 : 0 ≤ M) (M1 : M + p ≤ 1152) (v0 : 0 ≤ v) (v1 : v ≤ 9999) : EV sc 54 [vR 23, vI e, vR 2, vI v] (SK, μ) = some (none, (SK, ptS μ M v e p.toNat)) := by
  have l : ∀ (k j : Nat) (i : Int), i = j → j + k = p.toNat → AT sc 54 2 [vR 23, vI e, vR 2, vI v, vI p, vI i] [] (SK, ptS μ M v e j) = some (none, (SK, ptS μ M v e p.toNat)) := by
    intro k
    induction k with
    | zero =>
      intro j i hi e2
      rw [B54_2]
      simp (disch := omega) only [B54_5, xcI_some, xcV_some, if_pos, if_neg, xg_in, wr_of, if_true, if_false, or_true, true_or]
      rw [show j = p.toNat by omega]
    | succ k ih =>
      intro j i hi e2
      have ih1 := ih (j + 1) (i + 1) (by omega) (by omega)
      have h4 : ptS μ M v e j 2 4 = M + j := by
        unfold ptS
        rw [fl2_out (by omega), fl2_out (by omega), up2_eq]
      have r : EV sc 3 [vR 2, vI (v + i)] (SK, ptS μ M v e j) = some (some (vI (M + j + 1)), (SK, up2 (up2 (ptS μ M v e j) 2 4 (M + j + 1)) 5 (M + j + 1).toNat (v + i))) := by
        rw [K3 (by omega) (by omega), h4]
      have u : up2 (up2 (up2 (ptS μ M v e j) 2 4 (M + j + 1)) 5 (M + j + 1).toNat (v + i)) 37 (6 * e + i).toNat (M + j + 1) = ptS μ M v e (j + 1) := by
        unfold ptS
        rw [fl2_up (k := 2) (by omega), fl2_up (k := 2) (by omega), up2_up2, fl2_up (k := 5) (by omega), fl2_step (a := 5) (by omega) (by rw [hi]), fl2_step (a := 37) (by omega) (by omega), show M + (j : Int) + 1 = M + ((j + 1 : Nat) : Int) by omega]
      have ix : e * 6 + i = 6 * e + i := by omega
      rw [B54_2]
      simp (disch := omega) only [r, ix, B54_3, S_36, st_in, u, B54_4, ih1, xcI_some, xcV_some, if_pos, if_neg, xg_in, wr_of, if_true, if_false, or_true, true_or]
  have l0 := l p.toNat 0 0 rfl (by omega)
  have e00 : ptS μ M v e 0 = μ := by
    unfold ptS
    rw [fl2_0, fl2_0]
    exact up2_same (by rw [hM]; omega)
  rw [e00] at l0
  simp (disch := omega) only [V54, B54_0, B54_1, G_32, gt_in, h33, l0, xcI_some, xcV_some, if_pos, if_neg, xg_in, wr_of, if_true, if_false, or_true, true_or]
/-- the reference's new edit -/
def edM (m : Nat → Int) (s c e f a t p v n M : Int) : Nat → Int :=
  fl1 (fl1 (up1 (fl1 (fl1 (up1 (up1 (up1 (up1 (up1 (up1 m (41904 + c).toNat (n + 1)) (42084 + e).toNat f) (42324 + e).toNat t) (42564 + e).toNat p) (42804 + e).toNat (mkS m s f (a - 1))) (43044 + e).toNat (mkS m s f (a + t)))
    (43284 + 6 * e).toNat t.toNat (fun i => mkS m s f (a + (i : Int)))) (44724 + 6 * e).toNat t.toNat (fun i => m (524 + (320 * s + 40 * f + (a + (i : Int)))).toNat)) 1 (M + p.toNat)) (46164 + 6 * e).toNat p.toNat (fun i => M + 1 + (i : Int))) (47604 + 6 * e).toNat p.toNat (fun i => v + (i : Int))
theorem m185 (hν : ∀ i : Nat, i < 41484 → ν 140 i = m i) (s0 : 0 ≤ m 0) (s1 : m 0 ≤ 60) (f0 : 0 ≤ f) (f1 : f < 8) (g0 : 0 ≤ m (12 + 8 * m 0 + f).toNat) (g1 : m (12 + 8 * m 0 + f).toNat ≤ 24) {i : Int} : EV sc 185 [vR 139, vI f, vI i] (SK, ν) = some (some (vI (mkS m (m 0) f i)), (SK, ν)) := by
  have h0 := hν 0 (by omega)
  by_cases h : 0 ≤ i ∧ i < m (12 + 8 * m 0 + f).toNat
  · rw [mkS_in h.1 h.2]
    simp (disch := omega) only [V185, B185_0, B185_1, B185_2, B185_3, B185_4, B185_5, h0, m166, hν, in_t, m167, xcI_some, xcV_some, if_pos, if_neg, xg_in, wr_of, if_true, if_false, or_true, true_or]
  · rw [mkS_out (by omega)]
    simp (disch := omega) only [V185, B185_0, B185_1, B185_2, B185_3, B185_4, B185_5, h0, m166, hν, in_f, xcI_some, xcV_some, if_pos, if_neg, xg_in, wr_of, if_true, if_false, or_true, true_or]
theorem m186_15 (hν : ν 140 = m) {c e a t p v n M : Int} (hs : m 0 = s) (s0 : 0 ≤ s) (s1 : s ≤ 60) (f0 : 0 ≤ f) (f1 : f < 8) (c0 : 0 ≤ c) (c1 : c < 60) (hn : m (41904 + c).toNat = n) (n0 : 0 ≤ n) (n4 : n < 4) (he : e = 4 * c + n) (a0 : 0 ≤ a) (t0 : 0 ≤ t) (t1 : t ≤ 6) (g1 : m (12 + 8 * s + f).toNat ≤ 24) (h1 : a + t ≤ m (12 + 8 * s + f).toNat) (p0 : 0 ≤ p) (p1 : p ≤ 4) (hM : m 1 = M) (M0 : 0 ≤ M) (M1 : M + p ≤ 1152) (v0 : 0 ≤ v) (v1 : v ≤ 9999) :
    ∃ ν' : xM, AT sc 186 15 [vR 139, vI c, vI f, vI a, vI t, vI p, vI v, vI s, vN, vN, vN] [] (SK, ν) = some (some (vI (n + 1)), (SK, ν')) ∧ ν' 140 = edM m s c e f a t p v n M ∧ frM ν ν' := by
  subst hs
  have rd : ∀ i : Int, 0 ≤ i → i < t → mkS m (m 0) f (a + i) = m (21004 + (320 * m 0 + 40 * f + (a + i))).toNat := fun i i0 i1 => mkS_in (by omega) (by omega)
  have lt : ∀ (Y : xM), (∀ i : Nat, i < 41484 → Y 140 i = m i) → ∀ (k j : Nat) (i : Int), i = j → j + k = t.toNat → AT sc 186 24 [vR 139, vI c, vI f, vI a, vI t, vI p, vI v, vI (m 0), vN, vI e, vI i] [] (SK, fl2 (fl2 Y 140 (43284 + 6 * e).toNat j (fun i => mkS m (m 0) f (a + (i : Int)))) 140 (44724 + 6 * e).toNat j (fun i => m (524 + (320 * m 0 + 40 * f + (a + (i : Int)))).toNat)) =
      AT sc 186 29 [vR 139, vI c, vN, vN, vN, vI p, vI v, vN, vN, vI e, vN] [] (SK, fl2 (fl2 Y 140 (43284 + 6 * e).toNat t.toNat (fun i => mkS m (m 0) f (a + (i : Int)))) 140 (44724 + 6 * e).toNat t.toNat (fun i => m (524 + (320 * m 0 + 40 * f + (a + (i : Int)))).toNat)) := by
    intro Y hY k
    induction k with
    | zero =>
      intro j i hi e2
      rw [B186_24]
      simp (disch := omega) only [xcI_some, xcV_some, if_pos, if_neg, xg_in, wr_of, if_true, if_false, or_true, true_or]
      rw [show j = t.toNat by omega]
    | succ k ih =>
      intro j i hi e2
      have ih1 := ih (j + 1) (i + 1) (by omega) (by omega)
      have r := rd i (by omega) (by omega)
      have u1 : up2 (up2 (fl2 (fl2 Y 140 (43284 + 6 * e).toNat j (fun i => mkS m (m 0) f (a + (i : Int)))) 140 (44724 + 6 * e).toNat j (fun i => m (524 + (320 * m 0 + 40 * f + (a + (i : Int)))).toNat)) 140 (43284 + 6 * e + i).toNat (m (21004 + (320 * m 0 + 40 * f + (a + i))).toNat)) 140 (44724 + 6 * e + i).toNat (m (524 + (320 * m 0 + 40 * f + (a + i))).toNat) =
          fl2 (fl2 Y 140 (43284 + 6 * e).toNat (j + 1) (fun i => mkS m (m 0) f (a + (i : Int)))) 140 (44724 + 6 * e).toNat (j + 1) (fun i => m (524 + (320 * m 0 + 40 * f + (a + (i : Int)))).toNat) := by
        rw [fl2_up (i := (43284 + 6 * e + i).toNat) (by omega), fl2_step (i := (43284 + 6 * e + i).toNat) (by omega) (by rw [← hi, r]), fl2_step (by omega) (by rw [hi])]
      rw [B186_24]
      simp (disch := omega) only [m167, B186_25, fl2_out, hY, B186_26, up2_ne, B186_27, u1, B186_28, ih1, xcI_some, xcV_some, if_pos, if_neg, xg_in, wr_of, if_true, if_false, or_true, true_or]
  have lp : ∀ (Z : xM), Z 140 (41904 + c).toNat = n + 1 → ∀ (k j : Nat) (i : Int), i = j → j + k = p.toNat → AT sc 186 30 [vR 139, vI c, vN, vN, vN, vI p, vI v, vN, vN, vI e, vI i] [] (SK, fl2 (fl2 (up2 Z 140 1 (M + j)) 140 (46164 + 6 * e).toNat j (fun i => M + 1 + (i : Int))) 140 (47604 + 6 * e).toNat j (fun i => v + (i : Int))) =
      some (some (vI (n + 1)), (SK, fl2 (fl2 (up2 Z 140 1 (M + p.toNat)) 140 (46164 + 6 * e).toNat p.toNat (fun i => M + 1 + (i : Int))) 140 (47604 + 6 * e).toNat p.toNat (fun i => v + (i : Int)))) := by
    intro Z hZ k
    induction k with
    | zero =>
      intro j i hi e2
      rw [B186_30]
      simp (disch := omega) only [B186_34, fl2_out, up2_ne, hZ, xcI_some, xcV_some, if_pos, if_neg, xg_in, wr_of, if_true, if_false, or_true, true_or]
      rw [show j = p.toNat by omega]
    | succ k ih =>
      intro j i hi e2
      have ih1 := ih (j + 1) (i + 1) (by omega) (by omega)
      have u1 : up2 (up2 (up2 (fl2 (fl2 (up2 Z 140 1 (M + j)) 140 (46164 + 6 * e).toNat j (fun i => M + 1 + (i : Int))) 140 (47604 + 6 * e).toNat j (fun i => v + (i : Int))) 140 1 (M + j + 1)) 140 (46164 + 6 * e + i).toNat (M + j + 1)) 140 (47604 + 6 * e + i).toNat (v + i) =
          fl2 (fl2 (up2 Z 140 1 (M + ((j + 1 : Nat) : Int))) 140 (46164 + 6 * e).toNat (j + 1) (fun i => M + 1 + (i : Int))) 140 (47604 + 6 * e).toNat (j + 1) (fun i => v + (i : Int)) := by
        rw [fl2_up (i := 1) (by omega), fl2_up (i := 1) (by omega), up2_up2, fl2_up (i := (46164 + 6 * e + i).toNat) (by omega), fl2_step (i := (46164 + 6 * e + i).toNat) (by omega) (by omega), fl2_step (by omega) (by rw [hi]), show M + (j : Int) + 1 = M + ((j + 1 : Nat) : Int) by omega]
      rw [B186_30]
      simp (disch := omega) only [fl2_out, up2_eq, B186_31, up2_ne, B186_32, u1, B186_33, ih1, xcI_some, xcV_some, if_pos, if_neg, xg_in, wr_of, if_true, if_false, or_true, true_or]
  have r1 : ∀ Y : xM, (∀ i : Nat, i < 41484 → Y 140 i = m i) → ∀ i : Int, EV sc 185 [vR 139, vI f, vI i] (SK, Y) = some (some (vI (mkS m (m 0) f i)), (SK, Y)) := fun Y hY i => m185 hY s0 s1 f0 f1 (by omega) g1
  have q1 := r1 (up2 (up2 (up2 (up2 ν 140 (41904 + c).toNat (n + 1)) 140 (42084 + e).toNat f) 140 (42324 + e).toNat t) 140 (42564 + e).toNat p) (fun i hi => by simp (disch := omega) only [up2_ne, hν]) (a - 1)
  have q2 := r1 (up2 (up2 (up2 (up2 (up2 ν 140 (41904 + c).toNat (n + 1)) 140 (42084 + e).toNat f) 140 (42324 + e).toNat t) 140 (42564 + e).toNat p) 140 (42804 + e).toNat (mkS m (m 0) f (a - 1))) (fun i hi => by simp (disch := omega) only [up2_ne, hν]) (a + t)
  have l1 := lt (up2 (up2 (up2 (up2 (up2 (up2 ν 140 (41904 + c).toNat (n + 1)) 140 (42084 + e).toNat f) 140 (42324 + e).toNat t) 140 (42564 + e).toNat p) 140 (42804 + e).toNat (mkS m (m 0) f (a - 1))) 140 (43044 + e).toNat (mkS m (m 0) f (a + t))) (fun i hi => by simp (disch := omega) only [up2_ne, hν]) t.toNat 0 0 rfl (by omega)
  rw [fl2_0, fl2_0] at l1
  generalize hZ : fl2 (fl2 (up2 (up2 (up2 (up2 (up2 (up2 ν 140 (41904 + c).toNat (n + 1)) 140 (42084 + e).toNat f) 140 (42324 + e).toNat t) 140 (42564 + e).toNat p) 140 (42804 + e).toNat (mkS m (m 0) f (a - 1))) 140 (43044 + e).toNat (mkS m (m 0) f (a + t))) 140 (43284 + 6 * e).toNat t.toNat (fun i => mkS m (m 0) f (a + (i : Int)))) 140 (44724 + 6 * e).toNat t.toNat (fun i => m (524 + (320 * m 0 + 40 * f + (a + (i : Int)))).toNat) = Z at l1
  have z1 : Z 140 (41904 + c).toNat = n + 1 := by
    rw [← hZ]
    simp (disch := omega) only [fl2_out, up2_ne, up2_eq]
  have z2 : Z 140 1 = M := by
    rw [← hZ]
    simp (disch := omega) only [fl2_out, up2_ne, hν, hM]
  have l2 := lp Z z1 p.toNat 0 0 rfl (by omega)
  rw [fl2_0, fl2_0, up2_same (show Z 140 1 = M + ((0 : Nat) : Int) by rw [z2]; omega)] at l2
  have z3 : Z 140 = fl1 (fl1 (up1 (up1 (up1 (up1 (up1 (up1 m (41904 + c).toNat (n + 1)) (42084 + e).toNat f) (42324 + e).toNat t) (42564 + e).toNat p) (42804 + e).toNat (mkS m (m 0) f (a - 1))) (43044 + e).toNat (mkS m (m 0) f (a + t))) (43284 + 6 * e).toNat t.toNat (fun i => mkS m (m 0) f (a + (i : Int)))) (44724 + 6 * e).toNat t.toNat (fun i => m (524 + (320 * m 0 + 40 * f + (a + (i : Int)))).toNat) := by
    rw [← hZ]
    simp only [fl2_row, up2_row, hν]
  have z4 : frM ν Z := by
    rw [← hZ]
    exact (frM.up (by omega)).tr ((frM.up (by omega)).tr ((frM.up (by omega)).tr ((frM.up (by omega)).tr ((frM.up (by omega)).tr ((frM.up (by omega)).tr ((frM.fl (by omega)).tr (frM.fl (by omega))))))))
  refine ⟨_, ?_, ?_, z4.tr ((frM.up (k := 140) (i := 1) (v := M + p.toNat) (by omega)).tr ((frM.fl (k := 140) (b := (46164 + 6 * e).toNat) (n := p.toNat) (g := fun i => M + 1 + (i : Int)) (by omega)).tr (frM.fl (k := 140) (b := (47604 + 6 * e).toNat) (n := p.toNat) (g := fun i => v + (i : Int)) (by omega))))⟩
  · have ix : 4 * c + n = e := by omega
    simp (disch := omega) only [B186_15, B186_16, B186_17, B186_18, B186_19, hν, hn, ix, q1, B186_20, B186_21, q2, B186_22, B186_23, l1, B186_29, l2, xcI_some, xcV_some, if_pos, if_neg, xg_in, wr_of, if_true, if_false, or_true, true_or]
  · simp only [fl2_row, up2_row, z3]
    rfl
end

/-! edit -/
theorem mem_opt0 {x y : Int} (h : y ∈ opt0 x) : x ≠ 0 ∧ y = x := by
  unfold opt0 at h
  by_cases e : x = 0
  · rw [if_pos e] at h
    exact absurd h List.not_mem_nil
  · rw [if_neg e] at h
    exact ⟨e, List.mem_singleton.mp h⟩
theorem chain_opt {ρ : Int → Int} {x : Int} : ychain ρ (opt0 x) := by
  unfold opt0 ychain
  split
  · exact List.Pairwise.nil
  · exact List.pairwise_singleton _ _
theorem chain3 {ρ : Int → Int} {x y : Int} {l : List Int} (hl : ychain ρ l) (hx : x ≠ 0 → ∀ b ∈ l, ρ x < ρ b) (hy : y ≠ 0 → ∀ b ∈ l, ρ b < ρ y) (hxy : x ≠ 0 → y ≠ 0 → ρ x < ρ y) : ychain ρ (opt0 x ++ l ++ opt0 y) := by
  refine List.pairwise_append.mpr ⟨List.pairwise_append.mpr ⟨chain_opt, hl, fun a ha b hb => ?_⟩, chain_opt, fun a ha b hb => ?_⟩
  · obtain ⟨x0, e⟩ := mem_opt0 ha
    rw [e]
    exact hx x0 b hb
  · obtain ⟨y0, e⟩ := mem_opt0 hb
    rw [e]
    rcases List.mem_append.mp ha with h | h
    · obtain ⟨x0, e2⟩ := mem_opt0 h
      rw [e2]
      exact hxy x0 y0
    · exact hy y0 a h
theorem chain_mk {ρ : Int → Int} {m : Nat → Int} {b n : Int} (h : ∀ i j : Int, 0 ≤ i → i < j → j < n → ρ (m (b + i).toNat) < ρ (m (b + j).toNat)) : ychain ρ (mkL m b n) := by
  unfold ychain mkL
  rw [List.pairwise_map]
  refine List.Pairwise.imp_of_mem (fun {i j} hi hj hij => ?_) List.pairwise_lt_range
  have h2 := List.mem_range.mp hj
  exact h i j (by omega) (by omega) (by omega)
theorem mkS_nz {m : Nat → Int} {s f i : Int} (h : mkS m s f i ≠ 0) : 0 ≤ i ∧ i < m (12 + 8 * s + f).toNat ∧ mkS m s f i = m (21004 + (320 * s + 40 * f + i)).toNat := by
  by_cases e : 0 ≤ i ∧ i < m (12 + 8 * s + f).toNat
  · exact ⟨e.1, e.2, mkS_in e.1 e.2⟩
  · exact absurd (mkS_out (by omega)) h
theorem fi_lt {m : Nat → Int} {s f i j : Int} {ρ : Int → Int} (h : ychain ρ (mkL m (21004 + (320 * s + 40 * f)) (m (12 + 8 * s + f).toNat))) (i0 : 0 ≤ i) (ij : i < j) (j1 : j < m (12 + 8 * s + f).toNat) : ρ (m (21004 + (320 * s + 40 * f + i)).toNat) < ρ (m (21004 + (320 * s + 40 * f + j)).toNat) := by
  refine chain_lt (i := i.toNat) (j := j.toNat) h ?_ ?_ (by omega)
  · rw [mkL_get (by omega), show 21004 + (320 * s + 40 * f) + (i.toNat : Int) = 21004 + (320 * s + 40 * f + i) by omega]
  · rw [mkL_get (by omega), show 21004 + (320 * s + 40 * f) + (j.toNat : Int) = 21004 + (320 * s + 40 * f + j) by omega]
def edC (C : xM) (m : Nat → Int) (s c d f a t p v n M : Int) : xM := ptS (tkS (ceS C c d f t p n) m s f a t d t.toNat) M v d p.toNat
theorem yK_edit {C : xM} {m : Nat → Int} (h : yK C m) {s c d f a t p v n M : Int} (hs : m 0 = s) (hM : m 1 = M) (c0 : 0 ≤ c) (c1 : c < m 7) (f0 : 0 ≤ f) (f1 : f < 8) (hn : m (41904 + c).toNat = n) (n4 : n < 4) (hd : d = 4 * c + n) (a0 : 0 ≤ a) (t0 : 0 ≤ t) (t1 : t ≤ 6) (h1 : a + t ≤ m (12 + 8 * s + f).toNat) (p0 : 0 ≤ p) (p1 : p ≤ 4) (v0 : 0 ≤ v) (v1 : v ≤ 9999 - p) (hh : ¬ hsF m c f) : M + p ≤ 1152 ∧ yK (edC C m s c d f a t p v n M) (edM m s c d f a t p v n M) := by
  obtain ⟨a1, a2, a3, a4, a5, a6, a7, a8, a9, a10, a11⟩ := h
  have n7 : 0 ≤ m 7 ∧ m 7 ≤ 60 := ⟨a4.1, a4.2.1⟩
  have n0 : 0 ≤ m 0 ∧ m 0 ≤ 60 ∧ C 2 3 = m 0 := a6.1
  have n1 : 0 ≤ m 1 ∧ m 1 ≤ 1152 ∧ C 2 4 = m 1 := a6.2.1
  have n8 : 0 ≤ m 8 ∧ m 8 ≤ 60 := ⟨a7.1, a7.2.1⟩
  have hne := (a4.2.2.2 c c0 c1).2.1
  rw [hn] at hne
  have M1 : M + p ≤ 1152 := by
    have g := a10.2
    have g2 := sumN_bd (b := 4) (f := fun c => m (41904 + c)) (j := c.toNat) (b' := 3) (m 7).toNat (by omega) (fun i hi => by
      have g := (a4.2.2.2 (i : Int) (by omega) (by omega)).2.1.2
      rw [show (41904 + (i : Int)).toNat = 41904 + i by omega] at g
      exact g) (by rw [show 41904 + c.toNat = (41904 + c).toNat by omega, hn]; omega)
    omega
  refine ⟨M1, ?_⟩
  have hF := a6.2.2 s f (by omega) (by omega) f0 f1
  have hFo := a6.2.2
  have e : ∀ i : Nat, (i ≠ 1 ∧ (i : Int) ≠ 41904 + c ∧ (i : Int) ≠ 42084 + d ∧ (i : Int) ≠ 42324 + d ∧ (i : Int) ≠ 42564 + d ∧ (i : Int) ≠ 42804 + d ∧ (i : Int) ≠ 43044 + d ∧ ((i : Int) < 43284 + 6 * d ∨ 43284 + 6 * d + 6 ≤ i) ∧ ((i : Int) < 44724 + 6 * d ∨ 44724 + 6 * d + 6 ≤ i) ∧ ((i : Int) < 46164 + 6 * d ∨ 46164 + 6 * d + 6 ≤ i) ∧ ((i : Int) < 47604 + 6 * d ∨ 47604 + 6 * d + 6 ≤ i)) → edM m s c d f a t p v n M i = m i := fun i hi => by
    unfold edM
    simp (disch := omega) only [fl1_out, up1_ne]
  have eC : ∀ k i : Nat, ((k ≠ 2 ∨ i ≠ 4) ∧ (k ≠ 22 ∨ i ≠ c.toNat) ∧ (k ≠ 5 ∨ (i : Int) ≤ M) ∧ ((k ≠ 25 ∧ k ≠ 27 ∧ k ≠ 29 ∧ k ≠ 31 ∧ k ≠ 33) ∨ (i : Int) ≠ d) ∧ ((k ≠ 35 ∧ k ≠ 37) ∨ (i : Int) < 6 * d ∨ 6 * d + 6 ≤ i)) → edC C m s c d f a t p v n M k i = C k i := fun k i hi => by
    unfold edC ptS tkS ceS
    simp (disch := omega) only [fl2_out, up2_ne]
  have b1 : edM m s c d f a t p v n M 1 = M + p := by
    unfold edM
    simp (disch := omega) only [fl1_out, up1_eq]
    omega
  have bn : edM m s c d f a t p v n M (41904 + c).toNat = n + 1 := by
    unfold edM
    simp (disch := omega) only [fl1_out, up1_ne, up1_eq]
  have bf : edM m s c d f a t p v n M (42084 + d).toNat = f := by
    unfold edM
    simp (disch := omega) only [fl1_out, up1_ne, up1_eq]
  have bt : edM m s c d f a t p v n M (42324 + d).toNat = t := by
    unfold edM
    simp (disch := omega) only [fl1_out, up1_ne, up1_eq]
  have bp : edM m s c d f a t p v n M (42564 + d).toNat = p := by
    unfold edM
    simp (disch := omega) only [fl1_out, up1_ne, up1_eq]
  have ba : edM m s c d f a t p v n M (42804 + d).toNat = mkS m s f (a - 1) := by
    unfold edM
    simp (disch := omega) only [fl1_out, up1_ne, up1_eq]
  have bb : edM m s c d f a t p v n M (43044 + d).toNat = mkS m s f (a + t) := by
    unfold edM
    simp (disch := omega) only [fl1_out, up1_ne, up1_eq]
  have bm : ∀ i : Int, 0 ≤ i → i < t → edM m s c d f a t p v n M (43284 + 6 * d + i).toNat = mkS m s f (a + i) := fun i i0 i1 => by
    unfold edM
    simp (disch := omega) only [fl1_out, up1_ne, fl1_in]
    rw [show ((((43284 + 6 * d + i).toNat - (43284 + 6 * d).toNat : Nat)) : Int) = i by omega]
  have bv : ∀ i : Int, 0 ≤ i → i < t → edM m s c d f a t p v n M (44724 + 6 * d + i).toNat = m (524 + (320 * s + 40 * f + (a + i))).toNat := fun i i0 i1 => by
    unfold edM
    simp (disch := omega) only [fl1_out, up1_ne, fl1_in]
    rw [show ((((44724 + 6 * d + i).toNat - (44724 + 6 * d).toNat : Nat)) : Int) = i by omega]
  have bq : ∀ i : Int, 0 ≤ i → i < p → edM m s c d f a t p v n M (46164 + 6 * d + i).toNat = M + 1 + i := fun i i0 i1 => by
    unfold edM
    simp (disch := omega) only [fl1_out, fl1_in]
    rw [show ((((46164 + 6 * d + i).toNat - (46164 + 6 * d).toNat : Nat)) : Int) = i by omega]
  have bw : ∀ i : Int, 0 ≤ i → i < p → edM m s c d f a t p v n M (47604 + 6 * d + i).toNat = v + i := fun i i0 i1 => by
    unfold edM
    simp (disch := omega) only [fl1_in]
    rw [show ((((47604 + 6 * d + i).toNat - (47604 + 6 * d).toNat : Nat)) : Int) = i by omega]
  have q24 : edC C m s c d f a t p v n M 2 4 = M + p := by
    unfold edC ptS
    simp (disch := omega) only [fl2_out, up2_eq]
    omega
  have q22 : edC C m s c d f a t p v n M 22 c.toNat = n + 1 := by
    unfold edC ptS tkS ceS
    simp (disch := omega) only [fl2_out, up2_ne, up2_eq]
  have q25 : edC C m s c d f a t p v n M 25 d.toNat = f := by
    unfold edC ptS tkS ceS
    simp (disch := omega) only [fl2_out, up2_ne, up2_eq]
  have q31 : edC C m s c d f a t p v n M 31 d.toNat = t := by
    unfold edC ptS tkS ceS
    simp (disch := omega) only [fl2_out, up2_ne, up2_eq]
  have q33 : edC C m s c d f a t p v n M 33 d.toNat = p := by
    unfold edC ptS tkS ceS
    simp (disch := omega) only [fl2_out, up2_ne, up2_eq]
  have q27 : edC C m s c d f a t p v n M 27 d.toNat = mkS m s f (a - 1) := by
    unfold edC ptS tkS ceS
    simp (disch := omega) only [fl2_out, up2_ne, up2_eq]
  have q29 : edC C m s c d f a t p v n M 29 d.toNat = mkS m s f (a + t) := by
    unfold edC ptS tkS ceS
    simp (disch := omega) only [fl2_out, up2_ne, up2_eq]
  have q35 : ∀ i : Int, 0 ≤ i → i < t → edC C m s c d f a t p v n M 35 (6 * d + i).toNat = mkS m s f (a + i) := fun i i0 i1 => by
    unfold edC ptS tkS
    simp (disch := omega) only [fl2_out, up2_ne, fl2_in]
    rw [show ((((6 * d + i).toNat - (6 * d).toNat : Nat)) : Int) = i by omega]
  have q37 : ∀ i : Int, 0 ≤ i → i < p → edC C m s c d f a t p v n M 37 (6 * d + i).toNat = M + 1 + i := fun i i0 i1 => by
    unfold edC ptS
    simp (disch := omega) only [fl2_in]
    rw [show ((((6 * d + i).toNat - (6 * d).toNat : Nat)) : Int) = i by omega]
  have q5 : ∀ i : Int, 0 ≤ i → i < p → edC C m s c d f a t p v n M 5 (M + 1 + i).toNat = v + i := fun i i0 i1 => by
    unfold edC ptS
    simp (disch := omega) only [fl2_out, fl2_in]
    rw [show ((((M + 1 + i).toNat - (M + 1).toNat : Nat)) : Int) = i by omega]
  have q23 : edC C m s c d f a t p v n M 2 3 = m 0 := by rw [eC 2 3 (by omega)]; exact n0.2.2
  have hk0 : ∀ i : Int, 0 ≤ mkS m s f i ∧ mkS m s f i ≤ M := fun i => by
    by_cases z : mkS m s f i = 0
    · omega
    · obtain ⟨z0, z1, z2⟩ := mkS_nz z
      have g := hF.2.2.2 i z0 z1
      omega
  generalize edM m s c d f a t p v n M = m' at *
  generalize edC C m s c d f a t p v n M = C' at *
  have old : ∀ x k : Int, 0 ≤ x → x < m 7 → 0 ≤ k → k < m (41904 + x).toNat → (x ≠ c ∨ k < n) → yEe C' m' (4 * x + k) := fun x k x0 x1 k0 k1 hx => by
    have g4 := (a4.2.2.2 x x0 x1).2.1.2
    have ne : 4 * x + k ≠ d := by omega
    exact yEe_fr ((a5 x x0 x1).1 k k0 k1) (fun k' i hk => eC k' i (by unfold dEe at hk; omega)) (fun i i0 i1 => eC 5 i (by omega)) (by omega) (fun i hi => e i (by unfold aEe at hi; omega)) (by omega)
  have new : yEe C' m' d := by
    unfold yEe
    rw [bf, bt, bp, ba, bb, q25, q27, q29, q31, q33, b1]
    refine ⟨⟨rfl, rfl, rfl, rfl, rfl⟩, ⟨f0, by omega, t0, t1, p0, by omega, (hk0 _).1, by have := (hk0 (a - 1)).2; omega, (hk0 _).1, by have := (hk0 (a + t)).2; omega⟩, fun i i0 i1 => ?_, fun i i0 i1 => ?_⟩
    · have r := mkS_in (m := m) (s := s) (f := f) (i := a + i) (by omega) (by omega)
      have g := hF.2.2.2 (a + i) (by omega) (by omega)
      rw [q35 i i0 i1, bm i i0 i1, bv i i0 i1, b1, r, eC 5 _ (by omega)]
      exact ⟨rfl, g.2.1, by omega, g.2.2.2.1, g.2.2.2.2⟩
    · rw [q37 i i0 i1, bq i i0 i1, bw i i0 i1, b1, q5 i i0 i1]
      exact ⟨rfl, by omega, by omega, rfl, by omega, by omega⟩
  refine ⟨yT_fr a1 (fun k i hk => eC k i (by unfold dT at hk; omega)) (fun i hi => e i (by unfold aT at hi; omega)), yL_fr a2 (eC 1 6 (by omega)) (e 5 (by omega)), yG_fr a3 (fun k i hk => eC k i (by omega)) (fun i hi => e i (by omega)), ?_, ?_, ?_, yW_fr a7 ⟨a4.1, a4.2.1⟩ (fun k i hk => eC k i (by omega)) (fun i hi => e i (by omega)), yP_fr a8 (by rw [e 7 (by omega)]; exact Int.le_refl _) (fun k i hk => eC k i (by omega)) (fun i hi => e i (by omega)) (fun u u0 u1 _ => e (41964 + u).toNat (by omega)) (fun u u0 u1 h => by rw [e (41724 + u).toNat (by omega)]; exact h), ?_, ?_, yN_fr a11 a4 (fun i hi => e i (by omega)) (fun u u0 u1 h => by rw [e (41724 + u).toNat (by omega)]; exact h) (fun u u0 u1 h => by rw [e (41724 + u).toNat (by omega)] at h; exact h)⟩
  · unfold yA
    rw [e 7 (by omega), eC 6 9 (by omega)]
    refine ⟨n7.1, n7.2, a4.2.2.1, fun x x0 x1 => ?_⟩
    have g := a4.2.2.2 x x0 x1
    by_cases ex : x = c
    · subst ex
      have r1 := e (41604 + x).toNat (by omega)
      have r2 := e (41664 + x).toNat (by omega)
      have r3 := e (41724 + x).toNat (by omega)
      have r4 := e (41784 + x).toNat (by omega)
      have r5 := e (41844 + x).toNat (by omega)
      have r6 := e (41964 + x).toNat (by omega)
      have r8 := e (42024 + x).toNat (by omega)
      rw [r1, r2, r3, r4, r5, r6, r8, bn, eC 8 x.toNat (by omega), eC 10 x.toNat (by omega), eC 12 x.toNat (by omega), eC 14 x.toNat (by omega), eC 16 x.toNat (by omega), eC 18 x.toNat (by omega), eC 20 x.toNat (by omega), q22]
      refine ⟨⟨g.1.1, g.1.2.1, g.1.2.2.1, g.1.2.2.2.1, g.1.2.2.2.2.1, g.1.2.2.2.2.2.1, g.1.2.2.2.2.2.2.1, rfl⟩, ⟨by omega, by omega⟩, g.2.2.1, ?_⟩
      rcases g.2.2.2 with g4 | g4
      · exact Or.inl g4
      · exact Or.inr ⟨g4.1, g4.2.1, g4.2.2.1, by rw [e _ (by omega)]; exact g4.2.2.2⟩
    · have g2 := yAc_fr (C' := C') (m' := m') g (fun k hk => eC k _ (by omega)) (fun b hb => e _ (by omega)) (by rw [e 7 (by omega)]; exact Int.le_refl _) (fun b b0 b1 => e _ (by omega))
      unfold yAc at g2
      rw [e 7 (by omega)] at g2
      exact g2
  · intro x x0 x1
    rw [e 7 (by omega)] at x1
    by_cases ex : x = c
    · subst ex
      rw [bn]
      have fk : ∀ k : Int, 0 ≤ k → k < n → m' (42084 + (4 * x + k)).toNat = m (42084 + (4 * x + k)).toNat ∧ m (42084 + (4 * x + k)).toNat ≠ f := fun k k0 k1 => ⟨e _ (by omega), fun y => hh ⟨k.toNat, by rw [hn]; omega, by rw [show (k.toNat : Int) = k by omega]; exact y⟩⟩
      refine ⟨fun k k0 k1 => ?_, fun k k' k0 k1 k0' k1' ek => ?_⟩
      · by_cases en : k = n
        · rw [en, ← hd]; exact new
        · exact old x k x0 x1 k0 (by omega) (Or.inr (by omega))
      · by_cases en : k = n <;> by_cases en' : k' = n
        · omega
        · have z := fk k' k0' (by omega)
          rw [en, ← hd, bf, z.1] at ek
          exact absurd ek.symm z.2
        · have z := fk k k0 (by omega)
          rw [en', ← hd, bf, z.1] at ek
          exact absurd ek z.2
        · rw [(fk k k0 (by omega)).1, (fk k' k0' (by omega)).1] at ek
          exact (a5 x x0 x1).2 k k' k0 (by omega) k0' (by omega) ek
    · have g4 := (a4.2.2.2 x x0 x1).2.1.2
      have ne := e (41904 + x).toNat (by omega)
      rw [ne]
      refine ⟨fun k k0 k1 => old x k x0 x1 k0 k1 (Or.inl ex), fun k k' k0 k1 k0' k1' ek => ?_⟩
      rw [e (42084 + (4 * x + k)).toNat (by omega), e (42084 + (4 * x + k')).toNat (by omega)] at ek
      exact (a5 x x0 x1).2 k k' k0 k1 k0' k1' ek
  · unfold yB
    rw [e 0 (by omega), b1, q23, q24]
    exact ⟨⟨n0.1, n0.2.1, rfl⟩, ⟨by omega, by omega, rfl⟩, fun s' f' s0 s1 f0 f1 => yF_fr (hFo s' f' s0 s1 f0 f1) (fun k i hk => eC k i (by unfold dS at hk; omega)) (fun i i0 i1 => eC 5 i (by omega)) (by omega) (fun i hi => e i (by unfold aS at hi; omega)) s0 s0 ⟨f0, f1⟩⟩
  · obtain ⟨ρ, o1, o2⟩ := a9
    have oF := o1 s f (by omega) (by omega) f0 f1
    refine ⟨fun g x => if x ≤ M then 8 * ρ g x else if mkS m s f (a - 1) ≠ 0 then 8 * ρ g (mkS m s f (a - 1)) + (x - M) else if mkS m s f (a + t) ≠ 0 then 8 * ρ g (mkS m s f (a + t)) - 5 + (x - M) else x, ?_, ?_⟩
    · intro s' f' s0 s1 f0' f1'
      rw [e 0 (by omega)] at s1
      have hF2 := hFo s' f' s0 s1 f0' f1'
      rw [e (12 + 8 * s' + f').toNat (by omega), mkL_fr (m := m) (fun k k0 k1 => e _ (by have := hF2.2.2.1; omega))]
      refine List.Pairwise.imp_of_mem (fun {x y} hx hy hxy => ?_) (o1 s' f' s0 s1 f0' f1')
      obtain ⟨i, i0, i1, ei⟩ := mem_mkL hx
      obtain ⟨j, j0, j1, ej⟩ := mem_mkL hy
      have gi := (hF2.2.2.2 i i0 i1).2.2.1
      have gj := (hF2.2.2.2 j j0 j1).2.2.1
      rw [show 21004 + (320 * s' + 40 * f' + i) = 21004 + (320 * s' + 40 * f') + i by omega, ei] at gi
      rw [show 21004 + (320 * s' + 40 * f' + j) = 21004 + (320 * s' + 40 * f') + j by omega, ej] at gj
      simp only [if_pos (show x ≤ M by omega), if_pos (show y ≤ M by omega)]
      omega
    · intro x k x0 x1 k0 k1
      rw [e 7 (by omega)] at x1
      have g4 := (a4.2.2.2 x x0 x1).2.1.2
      by_cases isN : x = c ∧ k = n
      · obtain ⟨ex, ek⟩ := isN
        subst ex
        rw [ek, ← hd, bf, bt, bp, ba, bb]
        have lo : ∀ i j : Int, mkS m s f i ≠ 0 → mkS m s f j ≠ 0 → i < j → ρ f (mkS m s f i) < ρ f (mkS m s f j) := fun i j hi hj hij => by
          obtain ⟨i0, i1, i2⟩ := mkS_nz hi
          obtain ⟨j0, j1, j2⟩ := mkS_nz hj
          rw [i2, j2]
          exact fi_lt oF i0 hij j1
        have tk : ∀ i : Int, 0 ≤ i → i < t → mkS m s f (a + i) ≠ 0 := fun i i0 i1 => by
          rw [mkS_in (by omega) (by omega)]
          have := (hF.2.2.2 (a + i) (by omega) (by omega)).2.1
          omega
        constructor
        · refine chain3 (chain_mk fun i j i0 ij j1 => ?_) (fun hx b hb => ?_) (fun hy b hb => ?_) (fun hx hy => ?_)
          · rw [bm i i0 (by omega), bm j (by omega) j1]
            have := lo (a + i) (a + j) (tk i i0 (by omega)) (tk j (by omega) j1) (by omega)
            simp only [if_pos (hk0 (a + i)).2, if_pos (hk0 (a + j)).2]
            omega
          · obtain ⟨i, i0, i1, ei⟩ := mem_mkL hb
            rw [bm i i0 i1] at ei
            rw [← ei]
            have := lo (a - 1) (a + i) hx (tk i i0 i1) (by omega)
            simp only [if_pos (hk0 (a - 1)).2, if_pos (hk0 (a + i)).2]
            omega
          · obtain ⟨i, i0, i1, ei⟩ := mem_mkL hb
            rw [bm i i0 i1] at ei
            rw [← ei]
            have := lo (a + i) (a + t) (tk i i0 i1) hy (by omega)
            simp only [if_pos (hk0 (a + i)).2, if_pos (hk0 (a + t)).2]
            omega
          · have := lo (a - 1) (a + t) hx hy (by omega)
            simp only [if_pos (hk0 (a - 1)).2, if_pos (hk0 (a + t)).2]
            omega
        · refine chain3 (chain_mk fun i j i0 ij j1 => ?_) (fun hx b hb => ?_) (fun hy b hb => ?_) (fun hx hy => ?_)
          · rw [bq i i0 (by omega), bq j (by omega) j1]
            simp only [if_neg (show ¬ M + 1 + i ≤ M by omega), if_neg (show ¬ M + 1 + j ≤ M by omega)]
            split
            · omega
            · split <;> omega
          · obtain ⟨i, i0, i1, ei⟩ := mem_mkL hb
            rw [bq i i0 i1] at ei
            rw [← ei]
            simp only [if_pos (hk0 (a - 1)).2, if_neg (show ¬ M + 1 + i ≤ M by omega), if_pos hx]
            omega
          · obtain ⟨i, i0, i1, ei⟩ := mem_mkL hb
            rw [bq i i0 i1] at ei
            rw [← ei]
            simp only [if_pos (hk0 (a + t)).2, if_neg (show ¬ M + 1 + i ≤ M by omega)]
            by_cases hx : mkS m s f (a - 1) ≠ 0
            · have := lo (a - 1) (a + t) hx hy (by omega)
              rw [if_pos hx]
              omega
            · rw [if_neg hx, if_pos hy]
              omega
          · have := lo (a - 1) (a + t) hx hy (by omega)
            simp only [if_pos (hk0 (a - 1)).2, if_pos (hk0 (a + t)).2]
            omega
      · have k1' : k < m (41904 + x).toNat := by
          by_cases ex : x = c
          · subst ex
            rw [bn] at k1
            omega
          · rw [e (41904 + x).toNat (by omega)] at k1
            exact k1
        have ne : 4 * x + k ≠ d := by
          by_cases ex : x = c
          · subst ex
            omega
          · omega
        have he := (a5 x x0 x1).1 k k0 k1'
        have hr := he.2.1
        have ok := yOk_fr (m' := m') (o2 x k x0 x1 k0 k1') (by omega) (by omega) (by omega) (fun i hi => e i (by unfold aEe at hi; omega))
        have r1 := e (42084 + (4 * x + k)).toNat (by omega)
        have r2 := e (42804 + (4 * x + k)).toNat (by omega)
        have r3 := e (43044 + (4 * x + k)).toNat (by omega)
        have r4 := e (42324 + (4 * x + k)).toNat (by omega)
        have r5 := e (42564 + (4 * x + k)).toNat (by omega)
        unfold yOk at ok
        refine ⟨List.Pairwise.imp_of_mem (fun {y z} hy hz hyz => ?_) ok.1, List.Pairwise.imp_of_mem (fun {y z} hy hz hyz => ?_) ok.2⟩
        · have le : ∀ y ∈ opt0 (m' (42804 + (4 * x + k)).toNat) ++ mkL m' (43284 + 6 * (4 * x + k)) (m' (42324 + (4 * x + k)).toNat) ++ opt0 (m' (43044 + (4 * x + k)).toNat), y ≤ M := fun y hy => by
            rcases List.mem_append.mp hy with hy | hy
            · rcases List.mem_append.mp hy with hy | hy
              · have := (mem_opt0 hy).2
                rw [r2] at this
                omega
              · obtain ⟨i, i0, i1, ei⟩ := mem_mkL hy
                rw [r4] at i1
                have g := (he.2.2.1 i i0 i1).2.2.1
                rw [e _ (by omega)] at ei
                omega
            · have := (mem_opt0 hy).2
              rw [r3] at this
              omega
          simp only [if_pos (le y hy), if_pos (le z hz)]
          omega
        · have le : ∀ y ∈ opt0 (m' (42804 + (4 * x + k)).toNat) ++ mkL m' (46164 + 6 * (4 * x + k)) (m' (42564 + (4 * x + k)).toNat) ++ opt0 (m' (43044 + (4 * x + k)).toNat), y ≤ M := fun y hy => by
            rcases List.mem_append.mp hy with hy | hy
            · rcases List.mem_append.mp hy with hy | hy
              · have := (mem_opt0 hy).2
                rw [r2] at this
                omega
              · obtain ⟨i, i0, i1, ei⟩ := mem_mkL hy
                rw [r5] at i1
                have g := (he.2.2.2 i i0 i1).2.2.1
                rw [e _ (by omega)] at ei
                omega
            · have := (mem_opt0 hy).2
              rw [r3] at this
              omega
          simp only [if_pos (le y hy), if_pos (le z hz)]
          omega
  · unfold yM
    have hsum : sumN (fun x => m' (41904 + x)) (m 7).toNat = sumN (fun x => m (41904 + x)) (m 7).toNat + 1 := by
      refine sumN_one (m 7).toNat c.toNat (by omega) (fun i i0 i1 => e _ (by omega)) ?_
      rw [show 41904 + c.toNat = (41904 + c).toNat by omega, bn, hn]
    have g := a10.2
    rw [e 7 (by omega), b1, hsum]
    exact ⟨fun z => by omega, by omega⟩
section
variable {sc : Nat × (Nat → Int)} {μ : xM}
theorem edC_fr {m : Nat → Int} {s c d f a t p v n M : Int} : frC μ (edC μ m s c d f a t p v n M) := by
  unfold edC ptS tkS ceS
  exact (frC.up (by omega)).tr ((frC.up (by omega)).tr ((frC.up (by omega)).tr ((frC.up (by omega)).tr ((frC.up (by omega)).tr ((frC.up (by omega)).tr ((frC.fl (by omega)).tr ((frC.up (by omega)).tr ((frC.fl (by omega)).tr (frC.fl (by omega))))))))))
theorem op_edit (h : yAll μ) {c f a t p v : Int} : yOp sc 139 186 [vI c, vI f, vI a, vI t, vI p, vI v] μ := by
  obtain ⟨⟨a1, a2, a3, a4, a5, a6, a7, a8, a9, a10, a11⟩, hk⟩ := id h
  have n6 := a1.1
  have n3 := a1.2.1
  have n5 := a2.2
  have n10 : 0 ≤ μ 140 10 ∧ μ 140 10 ≤ 600 := ⟨a3.1, a3.2.1⟩
  have n7 : 0 ≤ μ 140 7 ∧ μ 140 7 ≤ 60 := ⟨a4.1, a4.2.1⟩
  have n0 : 0 ≤ μ 140 0 ∧ μ 140 0 ≤ 60 ∧ μ 2 3 = μ 140 0 := a6.1
  have n1 : 0 ≤ μ 140 1 ∧ μ 140 1 ≤ 1152 ∧ μ 2 4 = μ 140 1 := a6.2.1
  have n8 : 0 ≤ μ 140 8 ∧ μ 140 8 ≤ 60 := ⟨a7.1, a7.2.1⟩
  have n9 := a8.1
  have c7 := a4.2.2.1
  have c8 := a7.2.2.1
  have c10 := a3.2.2.1
  by_cases hc : 0 ≤ c ∧ c < μ 140 7
  · by_cases hf : 0 ≤ f ∧ f < 8
    · have hF := a6.2.2 (μ 140 0) f n0.1 (Int.le_refl _) hf.1 hf.2
      obtain ⟨g1, g2, g3, g4⟩ := id hF
      have k5 := K5 (sc := sc) (μ := μ) (s := μ 140 0) n0.1 (by omega) hf.1 hf.2
      rw [g1] at k5
      by_cases ht : 0 ≤ t ∧ t ≤ 6
      · by_cases hp : 0 ≤ p ∧ p ≤ 4
        · by_cases htp : t + p = 0
          · refine .same h (-2) ?_ fun ν hν => ?_
            · simp (disch := omega) only [V139, B139_0, B139_1, B139_2, B139_3, B139_4, B139_5, B139_6, B139_7, cChange_t, isIn_t, xcI_some, xcV_some, if_pos, if_neg, xg_in, wr_of, if_true, if_false, or_true, true_or]
            · by_cases hv : 0 ≤ v ∧ v ≤ 9999 - p
              · simp (disch := omega) only [V186, B186_0, B186_1, B186_2, B186_3, B186_4, B186_5, B186_6, mChange_t' (congrFun hν 7), isFile_t, in_t, xcI_some, xcV_some, if_pos, if_neg, xg_in, wr_of, if_true, if_false, or_true, true_or]
              · simp (disch := omega) only [V186, B186_0, B186_1, B186_2, B186_3, B186_4, B186_5, B186_6, mChange_t' (congrFun hν 7), isFile_t, in_t, in_f, xcI_some, xcV_some, if_pos, if_neg, xg_in, wr_of, if_true, if_false, or_true, true_or]
          · by_cases ha : 0 ≤ a ∧ a ≤ μ 140 (12 + 8 * μ 140 0 + f).toNat - t
            · by_cases hv : 0 ≤ v ∧ v ≤ 9999 - p
              · have ga := (a4.2.2.2 c hc.1 hc.2).1
                have gn := (a4.2.2.2 c hc.1 hc.2).2.1
                have head : AT sc 139 0 [vR 0, vI c, vI f, vI a, vI t, vI p, vI v, vN, vN] [] (SK, μ) = AT sc 139 13 [vR 0, vI c, vI f, vI a, vI t, vI p, vI v, vI (μ 140 (12 + 8 * μ 140 0 + f).toNat), vN] [vI (μ 140 0), vI c, vR 6] (SK, μ) := by
                  simp (disch := omega) only [B139_0, B139_1, B139_2, B139_4, B139_5, B139_6, B139_8, B139_9, B139_10, B139_12, V1, B1_0, n0.2.2, cChange_t, isIn_t, k5, xcI_some, xcV_some, if_pos, if_neg, xg_in, wr_of, if_true, if_false, or_true, true_or]
                have mhead : ∀ ν : xM, ν 140 = μ 140 → AT sc 186 0 [vR 139, vI c, vI f, vI a, vI t, vI p, vI v, vN, vN, vN, vN] [] (SK, ν) = AT sc 186 10 [vR 139, vI c, vI f, vI a, vI t, vI p, vI v, vI (μ 140 0), vI (μ 140 (12 + 8 * μ 140 0 + f).toNat), vN, vN] [] (SK, up2 ν 139 3 0) := fun ν hν => by
                  simp (disch := omega) only [B186_0, B186_1, B186_2, B186_3, B186_4, B186_5, B186_7, B186_8, B186_9, mChange_t' (congrFun hν 7), isFile_t, in_t, m166, up2_ne, hν, xcI_some, xcV_some, if_pos, if_neg, xg_in, wr_of, if_true, if_false, or_true, true_or]
                by_cases ho : μ 140 (41724 + c).toNat = 0 ∧ μ 140 (41664 + c).toNat = μ 140 0 ∧ μ 140 (41604 + c).toNat ≠ 4
                · have k38 : EV sc 38 [vR 6, vI c, vI (μ 140 0)] (SK, μ) = some (some (vI 1), (SK, μ)) := by
                    simp (disch := omega) only [V38, B38_0, B38_1, B38_2, B38_3, B38_4, B38_5, G_7, G_9, G_11, G_13, G_15, G_17, G_19, G_21, G_24, G_26, G_28, G_30, G_32, G_34, G_36, G_39, G_42, G_44, G_46, G_48, G_50, G_52, G_55, G_57, G_60, G_62, G_64, G_66, G_68, gt_in, ga.1, ga.2.1, ga.2.2.1, xcI_some, xcV_some, if_pos, if_neg, xg_in, wr_of, if_true, if_false, or_true, true_or]
                  have k39 := K39 (sc := sc) (f := f) a4 a5 hc.1 hc.2
                  by_cases hh : hsF (μ 140) c f
                  · rw [bI_t hh] at k39
                    refine .same h (-3) ?_ fun ν hν => ?_
                    · rw [V139, head]
                      simp (disch := omega) only [B139_13, B139_14, B139_15, B139_16, k38, k39, xcI_some, xcV_some, if_pos, if_neg, xg_in, wr_of, if_true, if_false, or_true, true_or]
                    · have k184 := m184 (sc := sc) (f := f) (ν := up2 ν 139 3 0) (m := μ 140) (by rw [up2_k (by omega)]; exact hν) hc.1 (by omega) gn.1 gn.2
                      rw [bI_t hh] at k184
                      rw [V186, mhead ν hν]
                      simp (disch := omega) only [B186_10, B186_11, B186_12, up2_ne, hν, k184, xcI_some, xcV_some, if_pos, if_neg, xg_in, wr_of, if_true, if_false, or_true, true_or]
                  · rw [bI_f hh] at k39
                    have q := fun μ1 : xM => q33 (sc := sc) (μ := μ1) (m := μ 140) (c := c)
                    by_cases hfu : μ 140 (41904 + c).toNat = 4 ∨ 24 < μ 140 (12 + 8 * μ 140 0 + f).toNat - t + p
                    · refine .same h (-4) ?_ fun ν hν => ?_
                      · rw [V139, head]
                        by_cases h4 : μ 140 (41904 + c).toNat < 4
                        · simp (disch := omega) only [B139_13, B139_14, B139_15, B139_16, B139_17, B139_18, B139_19, k38, k39, q μ a4 hc.1 hc.2, xcI_some, xcV_some, if_pos, if_neg, xg_in, wr_of, if_true, if_false, or_true, true_or]
                        · simp (disch := omega) only [B139_13, B139_14, B139_15, B139_16, B139_17, B139_18, B139_19, k38, k39, q μ a4 hc.1 hc.2, xcI_some, xcV_some, if_pos, if_neg, xg_in, wr_of, if_true, if_false, or_true, true_or]
                      · have k184 := m184 (sc := sc) (f := f) (ν := up2 ν 139 3 0) (m := μ 140) (by rw [up2_k (by omega)]; exact hν) hc.1 (by omega) gn.1 gn.2
                        rw [bI_f hh] at k184
                        rw [V186, mhead ν hν]
                        by_cases h4 : μ 140 (41904 + c).toNat = 4
                        · simp (disch := omega) only [B186_10, B186_11, B186_13, B186_14, up2_ne, hν, k184, xcI_some, xcV_some, if_pos, if_neg, xg_in, wr_of, if_true, if_false, or_true, true_or]
                        · simp (disch := omega) only [B186_10, B186_11, B186_13, B186_14, up2_ne, hν, k184, xcI_some, xcV_some, if_pos, if_neg, xg_in, wr_of, if_true, if_false, or_true, true_or]
                    · obtain ⟨M1, hK⟩ := yK_edit h.1 (s := μ 140 0) (c := c) (d := 4 * c + μ 140 (41904 + c).toNat) (f := f) (a := a) (t := t) (p := p) (v := v) rfl rfl hc.1 hc.2 hf.1 hf.2 rfl (by omega) rfl ha.1 ht.1 ht.2 (by omega) hp.1 hp.2 hv.1 hv.2 hh
                      refine .mk h (μ 140 (41904 + c).toNat + 1) _ _ ?_ edC_fr (fun ν hν => ?_) hK
                      · have k40 := K40 (sc := sc) (μ := μ) (f := f) (t := t) (p := p) hc.1 (by omega) gn.1 (by omega) ga.2.2.2.2.2.2.2 (e := 4 * c + μ 140 (41904 + c).toNat) rfl
                        have hF1 : yF (ceS μ c (4 * c + μ 140 (41904 + c).toNat) f t p (μ 140 (41904 + c).toNat)) (μ 140) (μ 140 0) (μ 140 0) f := by
                          unfold ceS
                          exact yF_eq hF (by rw [up2_k (by omega), up2_k (by omega), up2_k (by omega), up2_k (by omega)]) (by rw [up2_k (by omega), up2_k (by omega), up2_k (by omega), up2_k (by omega)]) (by rw [up2_k (by omega), up2_k (by omega), up2_k (by omega), up2_k (by omega)])
                        have k53 := K53 (sc := sc) (e := 4 * c + μ 140 (41904 + c).toNat) (a := a) (t := t) hF1 n0.1 (by omega) hf.1 hf.2 (by omega) (by omega) (by unfold ceS; simp (disch := omega) only [up2_ne, up2_eq]) (by unfold ceS; simp (disch := omega) only [up2_ne, up2_eq]) ht.1 ht.2 (by unfold ceS; simp (disch := omega) only [up2_ne, n0.2.2]) ha.1 (by omega)
                        have k54 := K54 (sc := sc) (μ := tkS (ceS μ c (4 * c + μ 140 (41904 + c).toNat) f t p (μ 140 (41904 + c).toNat)) (μ 140) (μ 140 0) f a t (4 * c + μ 140 (41904 + c).toNat) t.toNat) (e := 4 * c + μ 140 (41904 + c).toNat) (p := p) (v := v) (M := μ 140 1) (by omega) (by omega) (by unfold tkS ceS; simp (disch := omega) only [fl2_out, up2_ne, up2_eq]) hp.1 hp.2 (by unfold tkS ceS; simp (disch := omega) only [fl2_out, up2_ne, n1.2.2]) n1.1 M1 hv.1 (by omega)
                        have k33 : EV sc 33 [vR 6, vI c] (SK, edC μ (μ 140) (μ 140 0) c (4 * c + μ 140 (41904 + c).toNat) f a t p v (μ 140 (41904 + c).toNat) (μ 140 1)) = some (some (vI (μ 140 (41904 + c).toNat + 1)), (SK, edC μ (μ 140) (μ 140 0) c (4 * c + μ 140 (41904 + c).toNat) f a t p v (μ 140 (41904 + c).toNat) (μ 140 1))) := by
                          rw [V33, B33_0, G_21, xcI_some, B33_1, gt_in hc.1 (by omega)]
                          unfold edC ptS tkS ceS
                          simp (disch := omega) only [fl2_out, up2_ne, up2_eq]
                        rw [V139, head]
                        unfold edC at k33 ⊢
                        simp (disch := omega) only [B139_13, B139_14, B139_15, B139_16, B139_17, B139_18, B139_20, B139_21, B139_22, B139_23, B139_24, k38, k39, q μ a4 hc.1 hc.2, k40, V41, B41_0, B41_1, V42, B42_0, B42_1, k53, k54, k33, xcI_some, xcV_some, if_pos, if_neg, xg_in, wr_of, if_true, if_false, or_true, true_or]
                      · have ν0 : up2 ν 139 3 0 140 = μ 140 := by rw [up2_k (by omega)]; exact hν
                        have k184 := m184 (sc := sc) (f := f) ν0 hc.1 (by omega) gn.1 gn.2
                        rw [bI_f hh] at k184
                        obtain ⟨ν', e1, e2, e3⟩ := m186_15 (sc := sc) (a := a) (t := t) (p := p) (v := v) ν0 rfl n0.1 n0.2.1 hf.1 hf.2 hc.1 (by omega) rfl gn.1 (by omega) rfl ha.1 ht.1 ht.2 g3 (by omega) hp.1 hp.2 rfl n1.1 M1 hv.1 (by omega)
                        refine ⟨ν', ?_, e2, frM.th.tr e3⟩
                        rw [V186, mhead ν hν]
                        simp (disch := omega) only [B186_10, B186_11, B186_13, up2_ne, hν, k184, e1, xcI_some, xcV_some, if_pos, if_neg, xg_in, wr_of, if_true, if_false, or_true, true_or]
                · have k38 : EV sc 38 [vR 6, vI c, vI (μ 140 0)] (SK, μ) = some (some (vI 0), (SK, μ)) := by
                    by_cases o1 : μ 140 (41724 + c).toNat = 0
                    · by_cases o2 : μ 140 (41664 + c).toNat = μ 140 0
                      · have o3 : μ 140 (41604 + c).toNat = 4 := by
                          by_cases o3 : μ 140 (41604 + c).toNat = 4
                          · exact o3
                          · exact absurd ⟨o1, o2, o3⟩ ho
                        simp (disch := omega) only [V38, B38_0, B38_1, B38_2, B38_3, B38_4, B38_5, G_7, G_9, G_11, G_13, G_15, G_17, G_19, G_21, G_24, G_26, G_28, G_30, G_32, G_34, G_36, G_39, G_42, G_44, G_46, G_48, G_50, G_52, G_55, G_57, G_60, G_62, G_64, G_66, G_68, gt_in, ga.1, ga.2.1, ga.2.2.1, xcI_some, xcV_some, if_pos, if_neg, xg_in, wr_of, if_true, if_false, or_true, true_or]
                      · simp (disch := omega) only [V38, B38_0, B38_1, B38_2, B38_3, B38_4, B38_5, G_7, G_9, G_11, G_13, G_15, G_17, G_19, G_21, G_24, G_26, G_28, G_30, G_32, G_34, G_36, G_39, G_42, G_44, G_46, G_48, G_50, G_52, G_55, G_57, G_60, G_62, G_64, G_66, G_68, gt_in, ga.1, ga.2.1, ga.2.2.1, xcI_some, xcV_some, if_pos, if_neg, xg_in, wr_of, if_true, if_false, or_true, true_or]
                    · simp (disch := omega) only [V38, B38_0, B38_1, B38_2, B38_3, B38_4, B38_5, G_7, G_9, G_11, G_13, G_15, G_17, G_19, G_21, G_24, G_26, G_28, G_30, G_32, G_34, G_36, G_39, G_42, G_44, G_46, G_48, G_50, G_52, G_55, G_57, G_60, G_62, G_64, G_66, G_68, gt_in, ga.1, ga.2.1, ga.2.2.1, xcI_some, xcV_some, if_pos, if_neg, xg_in, wr_of, if_true, if_false, or_true, true_or]
                  refine .same h (-3) ?_ fun ν hν => ?_
                  · rw [V139, head]
                    simp (disch := omega) only [B139_13, B139_14, k38, xcI_some, xcV_some, if_pos, if_neg, xg_in, wr_of, if_true, if_false, or_true, true_or]
                  · have k184 := m184 (sc := sc) (f := f) (ν := up2 ν 139 3 0) (m := μ 140) (by rw [up2_k (by omega)]; exact hν) hc.1 (by omega) gn.1 gn.2
                    rw [V186, mhead ν hν]
                    by_cases o1 : μ 140 (41724 + c).toNat = 0
                    · by_cases o2 : μ 140 (41664 + c).toNat = μ 140 0
                      · have o3 : μ 140 (41604 + c).toNat = 4 := by
                          by_cases o3 : μ 140 (41604 + c).toNat = 4
                          · exact o3
                          · exact absurd ⟨o1, o2, o3⟩ ho
                        rcases bI_01 (P := hsF (μ 140) c f) with y | y
                        · rw [y.2] at k184
                          simp (disch := omega) only [B186_10, B186_11, B186_12, up2_ne, hν, k184, xcI_some, xcV_some, if_pos, if_neg, xg_in, wr_of, if_true, if_false, or_true, true_or]
                        · rw [y.2] at k184
                          simp (disch := omega) only [B186_10, B186_11, B186_12, up2_ne, hν, k184, xcI_some, xcV_some, if_pos, if_neg, xg_in, wr_of, if_true, if_false, or_true, true_or]
                      · simp (disch := omega) only [B186_10, B186_11, B186_12, up2_ne, hν, xcI_some, xcV_some, if_pos, if_neg, xg_in, wr_of, if_true, if_false, or_true, true_or]
                    · simp (disch := omega) only [B186_10, B186_11, B186_12, up2_ne, hν, xcI_some, xcV_some, if_pos, if_neg, xg_in, wr_of, if_true, if_false, or_true, true_or]
              · refine .same h (-2) ?_ fun ν hν => ?_
                · rcases (show v < 0 ∨ 9999 - p < v by omega) with y | y
                  · simp (disch := omega) only [V139, B139_0, B139_1, B139_2, B139_4, B139_5, B139_6, B139_8, B139_9, B139_10, B139_11, V1, B1_0, n0.2.2, cChange_t, isIn_t, k5, xcI_some, xcV_some, if_pos, if_neg, xg_in, wr_of, if_true, if_false, or_true, true_or]
                  · simp (disch := omega) only [V139, B139_0, B139_1, B139_2, B139_4, B139_5, B139_6, B139_8, B139_9, B139_10, B139_11, V1, B1_0, n0.2.2, cChange_t, isIn_t, k5, xcI_some, xcV_some, if_pos, if_neg, xg_in, wr_of, if_true, if_false, or_true, true_or]
                · simp (disch := omega) only [V186, B186_0, B186_1, B186_2, B186_3, B186_4, B186_5, B186_6, mChange_t' (congrFun hν 7), isFile_t, in_t, in_f, xcI_some, xcV_some, if_pos, if_neg, xg_in, wr_of, if_true, if_false, or_true, true_or]
            · refine .same h (-2) ?_ fun ν hν => ?_
              · rcases (show a < 0 ∨ (0 ≤ a ∧ μ 140 (12 + 8 * μ 140 0 + f).toNat - t < a) by omega) with y | y
                · simp (disch := omega) only [V139, B139_0, B139_1, B139_2, B139_4, B139_5, B139_6, B139_8, B139_9, B139_10, B139_11, V1, B1_0, n0.2.2, cChange_t, isIn_t, k5, xcI_some, xcV_some, if_pos, if_neg, xg_in, wr_of, if_true, if_false, or_true, true_or]
                · simp (disch := omega) only [V139, B139_0, B139_1, B139_2, B139_4, B139_5, B139_6, B139_8, B139_9, B139_10, B139_11, V1, B1_0, n0.2.2, cChange_t, isIn_t, k5, xcI_some, xcV_some, if_pos, if_neg, xg_in, wr_of, if_true, if_false, or_true, true_or]
              · by_cases hv : 0 ≤ v ∧ v ≤ 9999 - p
                · simp (disch := omega) only [V186, B186_0, B186_1, B186_2, B186_3, B186_4, B186_5, B186_6, B186_7, B186_8, B186_9, mChange_t' (congrFun hν 7), isFile_t, in_t, in_f, m166, up2_ne, hν, xcI_some, xcV_some, if_pos, if_neg, xg_in, wr_of, if_true, if_false, or_true, true_or]
                · simp (disch := omega) only [V186, B186_0, B186_1, B186_2, B186_3, B186_4, B186_5, B186_6, mChange_t' (congrFun hν 7), isFile_t, in_t, in_f, xcI_some, xcV_some, if_pos, if_neg, xg_in, wr_of, if_true, if_false, or_true, true_or]
        · refine .same h (-2) ?_ fun ν hν => ?_
          · simp (disch := omega) only [V139, B139_0, B139_1, B139_2, B139_3, B139_4, B139_5, B139_6, B139_7, cChange_t, isIn_t, isIn_f, xcI_some, xcV_some, if_pos, if_neg, xg_in, wr_of, if_true, if_false, or_true, true_or]
          · simp (disch := omega) only [V186, B186_0, B186_1, B186_2, B186_3, B186_4, B186_5, B186_6, mChange_t' (congrFun hν 7), isFile_t, in_t, in_f, xcI_some, xcV_some, if_pos, if_neg, xg_in, wr_of, if_true, if_false, or_true, true_or]
      · refine .same h (-2) ?_ fun ν hν => ?_
        · simp (disch := omega) only [V139, B139_0, B139_1, B139_2, B139_3, B139_4, B139_5, B139_6, B139_7, cChange_t, isIn_t, isIn_f, xcI_some, xcV_some, if_pos, if_neg, xg_in, wr_of, if_true, if_false, or_true, true_or]
        · simp (disch := omega) only [V186, B186_0, B186_1, B186_2, B186_3, B186_4, B186_5, B186_6, mChange_t' (congrFun hν 7), isFile_t, in_t, in_f, xcI_some, xcV_some, if_pos, if_neg, xg_in, wr_of, if_true, if_false, or_true, true_or]
    · refine .same h (-2) ?_ fun ν hν => ?_
      · simp (disch := omega) only [V139, B139_0, B139_1, B139_2, B139_3, cChange_t, isIn_t, isIn_f, xcI_some, xcV_some, if_pos, if_neg, xg_in, wr_of, if_true, if_false, or_true, true_or]
      · simp (disch := omega) only [V186, B186_0, B186_1, B186_2, B186_3, B186_4, B186_5, B186_6, mChange_t' (congrFun hν 7), isFile_f, xcI_some, xcV_some, if_pos, if_neg, xg_in, wr_of, if_true, if_false, or_true, true_or]
  · refine .same h (-2) ?_ fun ν hν => ?_
    · simp (disch := omega) only [V139, B139_0, B139_1, B139_2, B139_3, cChange_f, xcI_some, xcV_some, if_pos, if_neg, xg_in, wr_of, if_true, if_false, or_true, true_or]
    · simp (disch := omega) only [V186, B186_0, B186_1, B186_2, B186_3, B186_4, B186_5, B186_6, mChange_f' (congrFun hν 7), xcI_some, xcV_some, if_pos, if_neg, xg_in, wr_of, if_true, if_false, or_true, true_or]
end

/-! slots to work on: copied, and an edit done on one -/
def rS (m : Nat → Int) (A B : xM → Option xR) (m' : Nat → Int) : Prop := ∀ ν : xM, ν 140 = m → ∃ ν' : xM, A ν = B ν' ∧ ν' 140 = m' ∧ frR ν ν'
theorem rS.tr {m m1 m2 : Nat → Int} {A B D : xM → Option xR} (h : rS m A B m1) (h2 : rS m1 B D m2) : rS m A D m2 := fun ν hν => by
  obtain ⟨ν1, e1, e2, e3⟩ := h ν hν
  obtain ⟨ν2, f1, f2, f3⟩ := h2 ν1 e2
  exact ⟨ν2, e1.trans f1, f2, e3.tr f3⟩
theorem rS.rf {m : Nat → Int} {A B : xM → Option xR} (h : ∀ ν : xM, ν 140 = m → A ν = B ν) : rS m A B m := fun ν hν => ⟨ν, h ν hν, hν, .rf⟩
def aW (i : Nat) : Prop := (500 ≤ i ∧ i < 524) ∨ (20044 ≤ i ∧ i < 21004) ∨ (40524 ≤ i ∧ i < 41484)
def dW (k i : Nat) : Prop := (k = 4 ∧ 488 ≤ i) ∨ (k = 3 ∧ 11712 ≤ i)
theorem yK_W {C C' : xM} {m m' : Nat → Int} (h : yK C m) (em : ∀ i : Nat, ¬ aW i → m' i = m i) (eC' : ∀ k i : Nat, ¬ dW k i → C' k i = C k i) : yK C' m' := by
  obtain ⟨a1, a2, a3, a4, a5, a6, a7, a8, a9, a10, a11⟩ := h
  have n7 : 0 ≤ m 7 ∧ m 7 ≤ 60 := ⟨a4.1, a4.2.1⟩
  have n0 : 0 ≤ m 0 ∧ m 0 ≤ 60 ∧ C 2 3 = m 0 := a6.1
  have n1 : 0 ≤ m 1 ∧ m 1 ≤ 1152 ∧ C 2 4 = m 1 := a6.2.1
  have e : ∀ i : Nat, ¬ ((500 ≤ i ∧ i < 524) ∨ (20044 ≤ i ∧ i < 21004) ∨ (40524 ≤ i ∧ i < 41484)) → m' i = m i := em
  have eC : ∀ k i : Nat, ¬ ((k = 4 ∧ 488 ≤ i) ∨ (k = 3 ∧ 11712 ≤ i)) → C' k i = C k i := eC'
  exact ⟨yT_fr a1 (fun k i hk => eC k i (by unfold dT at hk; omega)) (fun i hi => e i (by unfold aT at hi; omega)), yL_fr a2 (eC 1 6 (by omega)) (e 5 (by omega)), yG_fr a3 (fun k i hk => eC k i (by omega)) (fun i hi => e i (by omega)), yA_fr a4 (fun k i hk => eC k i (by unfold dA at hk; omega)) (fun i hi => e i (by unfold aA at hi; omega)), yE_fr a5 a4 (fun k i hk => eC k i (by unfold dE at hk; omega)) (fun i _ _ => eC 5 i (by omega)) (by rw [e 1 (by omega)]; exact Int.le_refl _) (fun i hi => e i (by unfold aE at hi; omega)), yB_fr a6 ⟨eC 2 3 (by omega), eC 2 4 (by omega)⟩ ⟨e 0 (by omega), e 1 (by omega)⟩ (fun s _ _ k i hk => eC k i (by unfold dS at hk; omega)) (fun i _ _ => eC 5 i (by omega)) (fun s _ _ i hi => e i (by unfold aS at hi; omega)), yW_fr a7 ⟨a4.1, a4.2.1⟩ (fun k i hk => eC k i (by omega)) (fun i hi => e i (by omega)), yP_fr a8 (by rw [e 7 (by omega)]; exact Int.le_refl _) (fun k i hk => eC k i (by omega)) (fun i hi => e i (by omega)) (fun u u0 u1 _ => e (41964 + u).toNat (by omega)) (fun u u0 u1 h => by rw [e (41724 + u).toNat (by omega)]; exact h), yO_fr a9 a4 a6 a5 ⟨e 0 (by omega), e 7 (by omega)⟩ (fun s _ _ i hi => e i (by unfold aS at hi; omega)) (fun i hi => e i (by omega)), yM_fr a10 a4 (fun i hi => e i (by omega)), yN_fr a11 a4 (fun i hi => e i (by omega)) (fun u u0 u1 h => by rw [e (41724 + u).toNat (by omega)]; exact h) (fun u u0 u1 h => by rw [e (41724 + u).toNat (by omega)] at h; exact h)⟩
def ySl (C : xM) (m : Nat → Int) (s s' : Int) : Prop := ∀ f : Int, 0 ≤ f → f < 8 → yF C m s s' f
def oSl (ρ : Int → Int → Int) (m : Nat → Int) (s : Int) : Prop := ∀ f : Int, 0 ≤ f → f < 8 → ychain (ρ f) (fiL m s f)
def slE (m m' : Nat → Int) (s t f : Int) : Prop := m' (12 + 8 * t + f).toNat = m (12 + 8 * s + f).toNat ∧ ∀ i : Int, 0 ≤ i → i < m (12 + 8 * s + f).toNat → m' (21004 + (320 * t + 40 * f + i)).toNat = m (21004 + (320 * s + 40 * f + i)).toNat ∧ m' (524 + (320 * t + 40 * f + i)).toNat = m (524 + (320 * s + 40 * f + i)).toNat
theorem slE_fi {m m' : Nat → Int} {s t f : Int} (h : slE m m' s t f) : fiL m' t f = fiL m s f := by
  unfold fiL mkL
  rw [h.1]
  exact List.map_congr_left fun k hk => by
    have h2 := List.mem_range.mp hk
    rw [show 21004 + (320 * t + 40 * f) + (k : Int) = 21004 + (320 * t + 40 * f + k) by omega, show 21004 + (320 * s + 40 * f) + (k : Int) = 21004 + (320 * s + 40 * f + k) by omega]
    exact (h.2 k (by omega) (by omega)).1
theorem slE_yF {C : xM} {m m' : Nat → Int} {s s' t f : Int} (h : yF C m s s' f) (hs : slE m m' s' t f) (h1 : m' 1 = m 1) : yF C m' s t f := by
  obtain ⟨g1, g2, g3, g4⟩ := h
  obtain ⟨e1, e2⟩ := hs
  unfold yF
  rw [e1, h1]
  refine ⟨g1, g2, g3, fun i i0 i1 => ?_⟩
  rw [(e2 i i0 i1).1, (e2 i i0 i1).2]
  exact g4 i i0 i1
def cpC (C : xM) (s t : Int) : xM := cp2 (cp2 C 4 (s * 8).toNat 4 (t * 8).toNat 8) 3 (s * 8 * 24).toNat 3 (t * 8 * 24).toNat 192
theorem cpC_ne {C : xM} {s t : Int} {k i : Nat} (t0 : 0 ≤ t) (h : ¬ dS t k i) : cpC C s t k i = C k i := by
  unfold dS at h
  unfold cpC
  rw [cp2_out (by omega), cp2_out (by omega)]
theorem cpC_yF {C : xM} {m : Nat → Int} {s s' t f : Int} (h : yF C m s s' f) (s0 : 0 ≤ s) (t0 : 0 ≤ t) (f0 : 0 ≤ f) (f1 : f < 8) : yF (cpC C s t) m t s' f := by
  obtain ⟨g1, g2, g3, g4⟩ := h
  have e4 : cpC C s t 4 (t * 8 + f).toNat = C 4 (s * 8 + f).toNat := by
    unfold cpC
    rw [cp2_out (by omega), cp2_in rfl (by omega) (by omega), show (s * 8).toNat + ((t * 8 + f).toNat - (t * 8).toNat) = (s * 8 + f).toNat by omega]
  have e3 : ∀ i : Int, 0 ≤ i → i < 24 → cpC C s t 3 ((t * 8 + f) * 24 + i).toNat = C 3 ((s * 8 + f) * 24 + i).toNat := fun i i0 i1 => by
    unfold cpC
    rw [cp2_in rfl (by omega) (by omega), cp2_out (by omega), show (s * 8 * 24).toNat + (((t * 8 + f) * 24 + i).toNat - (t * 8 * 24).toNat) = ((s * 8 + f) * 24 + i).toNat by omega]
  have e5 : cpC C s t 5 = C 5 := by
    unfold cpC
    rw [cp2_k (by omega), cp2_k (by omega)]
  unfold yF
  rw [e4, e5]
  refine ⟨g1, g2, g3, fun i i0 i1 => ?_⟩
  rw [e3 i i0 (by omega)]
  exact g4 i i0 i1
theorem fl2_front {μ : xM} {a b n : Nat} {G : Nat → Int} {v : Int} (hv : v = G b) : up2 (fl2 μ a (b + 1) n (fun i => G (b + 1 + i))) a b v = fl2 μ a b (n + 1) (fun i => G (b + i)) := by
  funext k j
  by_cases e : k = a
  · subst e
    by_cases e2 : j = b
    · subst e2
      rw [up2_eq, fl2_in rfl (by omega) (by omega), hv, Nat.sub_self, Nat.add_zero]
    · rw [up2_ne (by omega)]
      by_cases h : b + 1 ≤ j ∧ j < b + 1 + n
      · rw [fl2_in rfl h.1 h.2, fl2_in rfl (by omega) (by omega)]
        simp only [show b + 1 + (j - (b + 1)) = b + (j - b) by omega]
      · rw [fl2_out (by omega), fl2_out (by omega)]
  · rw [up2_ne (by omega), fl2_out (by omega), fl2_out (by omega)]
theorem chain3_inv {ρ : Int → Int} {x y : Int} {l : List Int} (h : ychain ρ (opt0 x ++ l ++ opt0 y)) : ychain ρ l ∧ (x ≠ 0 → ∀ b ∈ l, ρ x < ρ b) ∧ (y ≠ 0 → ∀ b ∈ l, ρ b < ρ y) := by
  obtain ⟨h1, h2, h3⟩ := List.pairwise_append.mp h
  obtain ⟨h4, h5, h6⟩ := List.pairwise_append.mp h1
  refine ⟨h5, fun x0 b hb => h6 x ?_ b hb, fun y0 b hb => h3 b (List.mem_append_right _ hb) y ?_⟩
  · unfold opt0
    rw [if_neg x0]
    exact List.mem_singleton.mpr rfl
  · unfold opt0
    rw [if_neg y0]
    exact List.mem_singleton.mpr rfl
section
variable {sc : Nat × (Nat → Int)} {μ ν C : xM} {m : Nat → Int}
theorem m168 {s t : Int} (s0 : 0 ≤ s) (s1 : s < 64) (t0 : 0 ≤ t) (t1 : t < 64) (st : s ≠ t) (hl : ∀ f : Int, 0 ≤ f → f < 8 → 0 ≤ m (12 + 8 * s + f).toNat ∧ m (12 + 8 * s + f).toNat ≤ 24) : ∃ m' : Nat → Int, rS m (fun ν => EV sc 168 [vR 139, vI s, vI t] (SK, ν)) (fun ν => some (none, (SK, ν))) m' ∧ (∀ i : Nat, ¬ aS t i → m' i = m i) ∧ ∀ f : Int, 0 ≤ f → f < 8 → slE m m' s t f := by
  have inner : ∀ (f n : Int) (Y : xM), 0 ≤ f → f < 8 → 0 ≤ n → n ≤ 24 → Y 140 (12 + 8 * s + f).toNat = n → (∀ i : Nat, ((524 + 320 * s ≤ i ∧ (i : Int) < 844 + 320 * s) ∨ (21004 + 320 * s ≤ i ∧ (i : Int) < 21324 + 320 * s)) → Y 140 i = m i) → ∀ (k j : Nat) (i : Int), i = j → j + k = n.toNat →
      AT sc 168 2 [vR 139, vI s, vI t, vI f, vI i] [] (SK, fl2 (fl2 Y 140 (524 + (320 * t + 40 * f)).toNat j (fun i => m (524 + (320 * s + 40 * f + (i : Int))).toNat)) 140 (21004 + (320 * t + 40 * f)).toNat j (fun i => m (21004 + (320 * s + 40 * f + (i : Int))).toNat)) =
      AT sc 168 8 [vR 139, vI s, vI t, vI f, vN] [] (SK, fl2 (fl2 Y 140 (524 + (320 * t + 40 * f)).toNat n.toNat (fun i => m (524 + (320 * s + 40 * f + (i : Int))).toNat)) 140 (21004 + (320 * t + 40 * f)).toNat n.toNat (fun i => m (21004 + (320 * s + 40 * f + (i : Int))).toNat)) := by
    intro f n Y f0 f1 n0 n1 hn hY k
    induction k with
    | zero =>
      intro j i hi e
      rw [B168_2]
      simp (disch := omega) only [m166, fl2_out, hn, B168_3, xcI_some, xcV_some, if_pos, if_neg, xg_in, wr_of, if_true, if_false, or_true, true_or]
      rw [show j = n.toNat by omega]
    | succ k ih =>
      intro j i hi e
      have ih1 := ih (j + 1) (i + 1) (by omega) (by omega)
      have y1 := hY (524 + (320 * s + 40 * f + i)).toNat (by omega)
      have y2 := hY (21004 + (320 * s + 40 * f + i)).toNat (by omega)
      have u1 : up2 (up2 (fl2 (fl2 Y 140 (524 + (320 * t + 40 * f)).toNat j (fun i => m (524 + (320 * s + 40 * f + (i : Int))).toNat)) 140 (21004 + (320 * t + 40 * f)).toNat j (fun i => m (21004 + (320 * s + 40 * f + (i : Int))).toNat)) 140 (524 + (320 * t + 40 * f + i)).toNat (m (524 + (320 * s + 40 * f + i)).toNat)) 140 (21004 + (320 * t + 40 * f + i)).toNat (m (21004 + (320 * s + 40 * f + i)).toNat) =
          fl2 (fl2 Y 140 (524 + (320 * t + 40 * f)).toNat (j + 1) (fun i => m (524 + (320 * s + 40 * f + (i : Int))).toNat)) 140 (21004 + (320 * t + 40 * f)).toNat (j + 1) (fun i => m (21004 + (320 * s + 40 * f + (i : Int))).toNat) := by
        rw [fl2_up (i := (524 + (320 * t + 40 * f + i)).toNat) (by omega), fl2_step (i := (524 + (320 * t + 40 * f + i)).toNat) (by omega) (by rw [hi]), fl2_step (by omega) (by rw [hi])]
      rw [B168_2]
      simp (disch := omega) only [m166, fl2_out, hn, B168_3, m167, B168_4, B168_5, y1, up2_ne, B168_6, y2, B168_7, u1, ih1, xcI_some, xcV_some, if_pos, if_neg, xg_in, wr_of, if_true, if_false, or_true, true_or]
  have outer : ∀ (k j : Nat) (f : Int) (m1 : Nat → Int), f = j → j + k = 8 → (∀ i : Nat, ¬ aS t i → m1 i = m i) → (∀ f : Int, 0 ≤ f → f < j → slE m m1 s t f) → ∃ m' : Nat → Int, rS m1 (fun ν => AT sc 168 1 [vR 139, vI s, vI t, vI f, vN] [] (SK, ν)) (fun ν => some (none, (SK, ν))) m' ∧ (∀ i : Nat, ¬ aS t i → m' i = m i) ∧ ∀ f : Int, 0 ≤ f → f < 8 → slE m m' s t f := by
    intro k
    induction k with
    | zero =>
      intro j f m1 hf e h1 h2
      refine ⟨m1, .rf fun ν hν => ?_, h1, fun f f0 f1 => h2 f f0 (by omega)⟩
      rw [B168_1]
      simp (disch := omega) only [B168_9, xcI_some, xcV_some, if_pos, if_neg, xg_in, wr_of, if_true, if_false, or_true, true_or]
    | succ k ih =>
      intro j f m1 hf e h1 h2
      obtain ⟨l0, l1⟩ := hl f (by omega) (by omega)
      have el : m1 (12 + 8 * s + f).toNat = m (12 + 8 * s + f).toNat := h1 _ (by unfold aS; omega)
      generalize hn : m (12 + 8 * s + f).toNat = n at *
      have q : ∀ i : Nat, fl1 (fl1 (up1 m1 (12 + 8 * t + f).toNat n) (524 + (320 * t + 40 * f)).toNat n.toNat (fun i => m (524 + (320 * s + 40 * f + (i : Int))).toNat)) (21004 + (320 * t + 40 * f)).toNat n.toNat (fun i => m (21004 + (320 * s + 40 * f + (i : Int))).toNat) i = if i = (12 + 8 * t + f).toNat then n else if 524 + (320 * t + 40 * f) ≤ i ∧ (i : Int) < 524 + (320 * t + 40 * f) + n then m (524 + (320 * s + 40 * f + ((i : Int) - (524 + (320 * t + 40 * f))))).toNat else if 21004 + (320 * t + 40 * f) ≤ i ∧ (i : Int) < 21004 + (320 * t + 40 * f) + n then m (21004 + (320 * s + 40 * f + ((i : Int) - (21004 + (320 * t + 40 * f))))).toNat else m1 i := fun i => by
        by_cases c1 : i = (12 + 8 * t + f).toNat
        · subst c1
          rw [if_pos rfl, fl1_out (by omega), fl1_out (by omega), up1_eq]
        · rw [if_neg c1]
          by_cases c2 : 524 + (320 * t + 40 * f) ≤ i ∧ (i : Int) < 524 + (320 * t + 40 * f) + n
          · rw [if_pos c2, fl1_out (by omega), fl1_in (by omega) (by omega), show (((i - (524 + (320 * t + 40 * f)).toNat : Nat)) : Int) = (i : Int) - (524 + (320 * t + 40 * f)) by omega]
          · rw [if_neg c2]
            by_cases c3 : 21004 + (320 * t + 40 * f) ≤ i ∧ (i : Int) < 21004 + (320 * t + 40 * f) + n
            · rw [if_pos c3, fl1_in (by omega) (by omega), show (((i - (21004 + (320 * t + 40 * f)).toNat : Nat)) : Int) = (i : Int) - (21004 + (320 * t + 40 * f)) by omega]
            · rw [if_neg c3, fl1_out (by omega), fl1_out (by omega), up1_ne c1]
      generalize hM : fl1 (fl1 (up1 m1 (12 + 8 * t + f).toNat n) (524 + (320 * t + 40 * f)).toNat n.toNat (fun i => m (524 + (320 * s + 40 * f + (i : Int))).toNat)) (21004 + (320 * t + 40 * f)).toNat n.toNat (fun i => m (21004 + (320 * s + 40 * f + (i : Int))).toNat) = m2 at q
      have x2 : ∀ i : Nat, ¬ aS t i → m2 i = m i := fun i hi => by
        have hi2 := hi
        unfold aS at hi2
        rw [q i, if_neg (by omega), if_neg (by omega), if_neg (by omega)]
        exact h1 i hi
      have x3 : ∀ g : Int, 0 ≤ g → g < (j + 1 : Nat) → slE m m2 s t g := fun g g0 g1 => by
        by_cases eg : g = f
        · subst eg
          refine ⟨by rw [q, if_pos rfl, hn], fun i i0 i1 => ?_⟩
          rw [hn] at i1
          rw [q, q, if_neg (by omega), if_neg (by omega), if_pos (by omega), if_neg (by omega), if_pos (by omega)]
          exact ⟨by rw [show 320 * s + 40 * g + ((((21004 + (320 * t + 40 * g + i)).toNat : Nat) : Int) - (21004 + (320 * t + 40 * g))) = 320 * s + 40 * g + i by omega], by rw [show 320 * s + 40 * g + ((((524 + (320 * t + 40 * g + i)).toNat : Nat) : Int) - (524 + (320 * t + 40 * g))) = 320 * s + 40 * g + i by omega]⟩
        · obtain ⟨e1, e2⟩ := h2 g g0 (by omega)
          have l24 := hl g g0 (by omega)
          refine ⟨by rw [q, if_neg (by omega), if_neg (by omega), if_neg (by omega)]; exact e1, fun i i0 i1 => ?_⟩
          rw [q, q, if_neg (by omega), if_neg (by omega), if_neg (by omega), if_neg (by omega), if_neg (by omega), if_neg (by omega)]
          exact e2 i i0 i1
      obtain ⟨m', r1, r2, r3⟩ := ih (j + 1) (f + 1) m2 (by omega) (by omega) x2 x3
      refine ⟨m', rS.tr (m1 := m2) (fun ν hν => ?_) r1, r2, r3⟩
      have g := inner f n (up2 ν 140 (12 + 8 * t + f).toNat n) (by omega) (by omega) l0 l1 (by rw [up2_ne (by omega), hν]; exact el) (fun i hi => by rw [up2_ne (by omega), hν]; exact h1 i (by unfold aS; omega)) n.toNat 0 0 rfl (by omega)
      rw [fl2_0, fl2_0] at g
      refine ⟨fl2 (fl2 (up2 ν 140 (12 + 8 * t + f).toNat n) 140 (524 + (320 * t + 40 * f)).toNat n.toNat (fun i => m (524 + (320 * s + 40 * f + (i : Int))).toNat)) 140 (21004 + (320 * t + 40 * f)).toNat n.toNat (fun i => m (21004 + (320 * s + 40 * f + (i : Int))).toNat), ?_, ?_, (frR.up (by omega)).tr ((frR.fl (by omega)).tr (frR.fl (by omega)))⟩
      · show AT sc 168 1 [vR 139, vI s, vI t, vI f, vN] [] (SK, ν) = _
        rw [B168_1]
        simp (disch := omega) only [hν, el, g, B168_8, xcI_some, xcV_some, if_pos, if_neg, xg_in, wr_of, if_true, if_false, or_true, true_or]
      · rw [← hM]
        simp only [fl2_row, up2_row, hν]
  obtain ⟨m', r1, r2, r3⟩ := outer 8 0 0 m rfl rfl (fun _ _ => rfl) (fun f f0 f1 => absurd f1 (by omega))
  exact ⟨m', fun ν hν => by
    obtain ⟨ν', e1, e2⟩ := r1 ν hν
    exact ⟨ν', (show EV sc 168 [vR 139, vI s, vI t] (SK, ν) = some (none, (SK, ν')) by rw [V168, B168_0]; exact e1), e2⟩, r2, r3⟩
theorem m190 {s f i t : Int} (s0 : 0 ≤ s) (s1 : s < 64) (f0 : 0 ≤ f) (f1 : f < 8) (i0 : 0 ≤ i) (i1 : i < 40) (t0 : 0 ≤ t) (t1 : t < 40) : EV sc 190 [vR 139, vI s, vI f, vI i, vI t] (SK, ν) = some (none, (SK, up2 (up2 ν 140 (21004 + (320 * s + 40 * f + t)).toNat (ν 140 (21004 + (320 * s + 40 * f + i)).toNat)) 140 (524 + (320 * s + 40 * f + t)).toNat (ν 140 (524 + (320 * s + 40 * f + i)).toNat))) := by
  simp (disch := omega) only [V190, B190_0, B190_1, B190_2, B190_3, B190_4, m167, up2_ne, xcI_some, xcV_some, if_pos, if_neg, xg_in, wr_of, if_true, if_false, or_true, true_or]
end

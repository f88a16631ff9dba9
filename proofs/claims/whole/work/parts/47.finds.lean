/-! work is found -/
theorem fsL_rls {m : Nat → Int} : ∀ (n : Nat) (i : Int), fsL m (rfA m) n i ≠ -1 → ∃ l, rls m n i = fsL m (rfA m) n i :: l := by
  intro n
  induction n with
  | zero => intro i h; exact absurd rfl h
  | succ n ih =>
    intro i h
    by_cases r : rfA m i
    · exact ⟨rls m n (i + 1), by rw [rls_t r, fsL_t r]⟩
    · rw [fsL_f r] at h ⊢
      rw [rls_f r]
      exact ih (i + 1) h
theorem rls_len {m : Nat → Int} : ∀ (n : Nat) (i : Int), (rls m n i).length ≤ n := by
  intro n
  induction n with
  | zero => intro i; simp [rls]
  | succ n ih =>
    intro i
    have := ih (i + 1)
    by_cases r : rfA m i
    · rw [rls_t r, List.length_cons]; omega
    · rw [rls_f r]; omega
section
variable {sc : Nat × (Nat → Int)} {C : xM} {m : Nat → Int}
theorem K70_none (hQ : yQ C m) (h6 : C 41 6 = 0) (hno : ∀ k : Int, 0 ≤ k → k < m 8 → ¬ rfA m k) : ∀ (r : Nat) (pl i : Int), 0 ≤ pl → i + r = m 8 → pl = i → AT sc 70 4 [vR 1, vI (m 8), vI pl, vI i, vN, vN, vN] [] (SK, C) = some (none, (SK, C)) := by
  obtain ⟨a1, a2, a3, a4, a5, a6, a7, a9, a10, a11⟩ := id hQ
  have n5 : C 1 6 = m 5 ∧ 1 ≤ m 5 ∧ m 5 ≤ 8 := a2
  have n8 : 0 ≤ m 8 ∧ m 8 ≤ 60 := ⟨a7.1, a7.2.1⟩
  have c8 := a7.2.2.1
  intro r
  induction r with
  | zero =>
    intro pl i pl0 e hp
    rw [B70_4]
    simp (disch := omega) only [B70_22, xcI_some, xcV_some, if_pos, if_neg, xg_in, wr_of, if_true, if_false, or_true, true_or]
  | succ r ih =>
    intro pl i pl0 e hp
    have ih1 := ih (pl + 1) (i + 1) (by omega) (by omega) (by omega)
    have k84 := K84 (sc := sc) a7 pl0 (by omega : pl < m 8)
    have k66 := K66 (sc := sc) a4 a7 pl0 (by omega : pl < m 8)
    rw [bI_f (hno pl pl0 (by omega))] at k66
    rw [B70_4]
    simp (disch := omega) only [V82, B82_0, V99, B99_0, c8, h6, B70_5, B70_6, n5.1, k84, B70_7, k66, B70_8, B70_10, B70_12, B70_13, B70_16, B70_20, B70_21, ih1, xcI_some, xcV_some, if_pos, if_neg, xg_in, wr_of, if_true, if_false, or_true, true_or]
theorem K70_head (hQ : yQ C m) : EV sc 70 [vR 1] (SK, C) = AT sc 70 4 [vR 1, vI (m 8), vI 0, vI 0, vN, vN, vN] [] (SK, cpC C (m 0) 61) := by
  obtain ⟨a1, a2, a3, a4, a5, a6, a7, a9, a10, a11⟩ := id hQ
  have n0 : 0 ≤ m 0 ∧ m 0 ≤ 60 ∧ C 2 3 = m 0 := a6.1
  have c8 := a7.2.2.1
  have k14 : EV sc 14 [vR 2, vI (m 0), vI 61] (SK, C) = some (none, (SK, cpC C (m 0) 61)) := K14 n0.1 (by omega) (by omega) (by omega)
  have c8' : cpC C (m 0) 61 38 1 = m 8 := by rw [cpC_ne (by omega) (by unfold dS; omega)]; exact c8
  simp (disch := omega) only [V70, B70_0, B70_1, B70_2, B70_3, V1, B1_0, V82, B82_0, n0.2.2, k14, c8', xcI_some, xcV_some, if_pos, if_neg, xg_in, wr_of, if_true, if_false, or_true, true_or]
theorem m215_1 (hA : yA C m) (hW : yW C m) : ∀ (n : Nat) (i : Int) (L : List Int) (ν : xM), 0 ≤ i → i + n = m 8 → ν 140 = m → isL (ν 142) L → (L.length : Int) ≤ i → ∃ ν' : xM, AT sc 215 1 [vR 139, vI L.length, vI i, vN] [] (SK, ν) = AT sc 215 5 [vR 139, vI (L ++ rls m n i).length, vN, vN] [] (SK, ν') ∧ isL (ν' 142) (L ++ rls m n i) ∧ (∀ k, k ≠ 142 → ν' k = ν k) := by
  have h7 := hA.2.1
  have w8 := hW.2.1
  intro n
  induction n with
  | zero =>
    intro i L ν i0 e hν hL hl
    refine ⟨ν, ?_, by rw [show rls m 0 i = [] from rfl, List.append_nil]; exact hL, fun _ _ => rfl⟩
    rw [B215_1]
    simp (disch := omega) only [hν, xcI_some, xcV_some, if_pos, if_neg, xg_in, wr_of, if_true, if_false, or_true, true_or]
    rw [show rls m 0 i = [] from rfl, List.append_nil]
  | succ n ih =>
    intro i L ν i0 e hν hL hl
    have g := hW.2.2.2.1 i i0 (by omega)
    have gl : 0 ≤ lnA m i ∧ lnA m i < m 7 := ⟨g.2.1, g.2.2.1⟩
    have el : m (49044 + i).toNat = lnA m i := rfl
    obtain ⟨x, x01, k206, hx⟩ := m206 (sc := sc) hν hA hW i0 (by omega : i < m 8)
    have k205 := m205 (sc := sc) hν hA gl.1 gl.2
    by_cases r : rfA m i
    · obtain ⟨r1, r2⟩ := hx.mp r
      rw [r1] at k206
      rw [bI_t r2] at k205
      obtain ⟨ν', f1, f2, f3⟩ := ih (i + 1) (L ++ [lnA m i]) (up2 ν 142 L.length (lnA m i)) (by omega) (by omega) (by rw [up2_k (by omega)]; exact hν) (by rw [up2_row]; exact hL.app) (by rw [List.length_append, List.length_singleton]; omega)
      rw [List.append_assoc, List.singleton_append] at f1 f2
      rw [rls_t r]
      refine ⟨ν', ?_, f2, fun k hk => by rw [f3 k hk, up2_k hk]⟩
      rw [show ((L ++ [lnA m i]).length : Int) = (L.length : Int) + 1 by rw [List.length_append, List.length_singleton]; omega] at f1
      have en : ((L.length : Int)).toNat = L.length := by omega
      rw [B215_1]
      clear hx
      simp (disch := omega) only [hν, el, k206, B215_2, k205, B215_3, en, B215_4, f1, xcI_some, xcV_some, if_pos, if_neg, xg_in, wr_of, if_true, if_false, or_true, true_or]
    · obtain ⟨ν', f1, f2, f3⟩ := ih (i + 1) L ν (by omega) (by omega) hν hL (by omega)
      rw [rls_f r]
      refine ⟨ν', ?_, f2, f3⟩
      rw [B215_1]
      by_cases r2 : rdy m (lnA m i)
      · have x0 : x = 0 := x01.elim id (fun y => absurd (hx.mpr ⟨y, r2⟩) r)
        rw [x0] at k206
        clear hx
        simp (disch := omega) only [hν, el, k206, B215_2, B215_4, f1, xcI_some, xcV_some, if_pos, if_neg, xg_in, wr_of, if_true, if_false, or_true, true_or]
      · rw [bI_f r2] at k205
        clear hx
        by_cases x0 : x = 0
        · rw [x0] at k206
          simp (disch := omega) only [hν, el, k206, B215_2, B215_4, f1, xcI_some, xcV_some, if_pos, if_neg, xg_in, wr_of, if_true, if_false, or_true, true_or]
        · simp (disch := omega) only [hν, el, k206, B215_2, k205, B215_3, B215_4, f1, xcI_some, xcV_some, if_pos, if_neg, xg_in, wr_of, if_true, if_false, or_true, true_or]
theorem many (h : yK C m) (h9 : m 9 = 0) : ∃ (C' : xM) (m' : Nat → Int), EV sc 70 [vR 1] (SK, C) = some (none, (SK, C')) ∧ (∀ ν : xM, ν 140 = m → ∃ ν' : xM, EV sc 215 [vR 139] (SK, ν) = some (none, (SK, ν')) ∧ ν' 140 = m' ∧ frM ν ν') ∧ frC C C' ∧ yK C' m' ∧ ((m' 9 = 1 ∧ frsh m') ∨ m' 9 = 0) ∧ m' 8 ≤ m 8 ∧ m' 10 = m 10 ∧
    (∀ u l, rls m (m 8).toNat 0 = u :: l → ¬ ukd m u 2 → m' 9 = 1 ∨ m' 8 < m 8) := by
  obtain ⟨a1, a2, a3, a4, a5, a6, a7, a8, a9, a10, a11⟩ := id h
  have hQ := yQ_of h
  have n7 : 0 ≤ m 7 ∧ m 7 ≤ 60 := ⟨a4.1, a4.2.1⟩
  have n8 : 0 ≤ m 8 ∧ m 8 ≤ 60 := ⟨a7.1, a7.2.1⟩
  have n0 : 0 ≤ m 0 ∧ m 0 ≤ 60 ∧ C 2 3 = m 0 := a6.1
  obtain ⟨ρ, ho⟩ := a9
  have ho' : oB ρ m := ho
  have c41 := yP_00 a8 h9
  have hl : ∀ f : Int, 0 ≤ f → f < 8 → 0 ≤ m (12 + 8 * m 0 + f).toNat ∧ m (12 + 8 * m 0 + f).toNat ≤ 24 := fun f f0 f1 => by
    have g := a6.2.2 (m 0) f n0.1 (Int.le_refl _) f0 f1
    exact ⟨g.2.1, g.2.2.1⟩
  obtain ⟨m1, r1, x1, x2⟩ := m168 (sc := sc) (m := m) (s := m 0) (t := 61) n0.1 (by omega) (by omega) (by omega) (by omega) hl
  have m1s : ∀ i : Nat, (i < 500 ∨ (524 ≤ i ∧ i < 20044) ∨ (21004 ≤ i ∧ i < 40524) ∨ 41484 ≤ i) → m1 i = m i := fun i hi => x1 i (by unfold aS; omega)
  have m19 : m1 9 = 0 := by rw [m1s 9 (by omega)]; exact h9
  have r212 := m212 (sc := sc) (m := m1) (t := -1) m19 (Int.le_refl _) (by omega)
  have nr : ∀ i : Nat, (i ≠ 9 ∧ (i < 49104 ∨ 49296 ≤ i)) → nrM m1 0 (-1) i = m1 i := fun i hi => by
    unfold nrM
    simp (disch := omega) only [up1_ne]
  have nrm : ∀ i : Nat, (i ≠ 9 ∧ (i < 49104 ∨ 49296 ≤ i)) → (i < 500 ∨ (524 ≤ i ∧ i < 20044) ∨ (21004 ≤ i ∧ i < 40524) ∨ 41484 ≤ i) → nrM m1 0 (-1) i = m i := fun i h1 h2 => by rw [nr i h1, m1s i h2]
  have hQ1 : yQ (cpC C (m 0) 61) m1 := yQ_W hQ (fun i hi => x1 i (aS_W (by omega) hi)) (fun k i hi => cpC_ne (by omega) (dS_W (by omega) hi))
  have hQ2 : yQ (cpC C (m 0) 61) (nrM m1 0 (-1)) := yQ_fr hQ1 (fun i hi => nr i hi) (fun _ _ _ => rfl)
  have ho1 : oB ρ m1 := oB_W ho' (yQ_J hQ) (fun i hi => x1 i (aS_W (by omega) hi))
  have ho2 : oB ρ (nrM m1 0 (-1)) := oB_fr ho1 (yQ_J hQ1) (fun i hi => nr i (by omega))
  have s12 : ∀ f : Int, 0 ≤ f → f < 8 → slE m1 (nrM m1 0 (-1)) 61 61 f := fun f f0 f1 => by
    have g := hl f f0 f1
    have g2 := (x2 f f0 f1).1
    exact ⟨nr _ (by omega), fun i i0 i1 => ⟨nr _ (by omega), nr _ (by omega)⟩⟩
  have s02 : ∀ f : Int, 0 ≤ f → f < 8 → slE m (nrM m1 0 (-1)) (m 0) 61 f := fun f f0 f1 => slE_tr (x2 f f0 f1) (s12 f f0 f1)
  have hS2 : ySl (cpC C (m 0) 61) (nrM m1 0 (-1)) 61 61 := fun f f0 f1 => slE_yF (cpC_yF (a6.2.2 (m 0) f n0.1 (Int.le_refl _) f0 f1) n0.1 (by omega) f0 f1) (s02 f f0 f1) (nrm 1 (by omega) (by omega))
  have hρ2 : oSl ρ (nrM m1 0 (-1)) 61 := fun f f0 f1 => by
    rw [slE_fi (s02 f f0 f1)]
    exact ho.1 (m 0) f n0.1 (Int.le_refl _) f0 f1
  have g0 := gP_0 (C := cpC C (m 0) 61) (m := m1) (k := 0) (by rw [cpC_ne (by omega) (by unfold dS; omega)]; exact c41.1) (by rw [cpC_ne (by omega) (by unfold dS; omega)]; exact c41.2)
  have e8 : nrM m1 0 (-1) 8 = m 8 := nrm 8 (by omega) (by omega)
  have rl : rls (nrM m1 0 (-1)) (m 8).toNat 0 = rls m (m 8).toNat 0 := rls_eq a4 a7 (fun i hi => nrm i (by omega) (by omega)) (fun i hi => nrm i (by omega) (by omega)) (by omega) (by omega)
  have rlen := rls_len (m := m) (m 8).toNat 0
  obtain ⟨C', w', n', pl', o1, o2, o3, o4, o5, o6, o7, o8, o9, o10⟩ := many_loop (sc := sc) (m 8).toNat (cpC C (m 0) 61) (nrM m1 0 (-1)) 0 0 0 (m 8) 0 (rls m (m 8).toNat 0).length ⟨hQ2, ho2, hS2, hρ2, g0, fun _ f f0 f1 => by
    rw [nrm 0 (by omega) (by omega)]
    have g := hl f f0 f1
    exact slE_tr (slE_sy (show slE m (nrM m1 0 (-1)) (m 0) (m 0) f from ⟨nrm _ (by omega) (by omega), fun i i0 i1 => ⟨nrm _ (by omega) (by omega), nrm _ (by omega) (by omega)⟩⟩)) (s02 f f0 f1), fun x => absurd rfl x⟩ (Int.le_refl _) (by omega) (Int.le_refl _) n8.2 (by rw [e8]; omega) (Int.le_refl _) (by rw [e8, show m 8 - 0 = m 8 by omega, rl]; omega) (by omega)
  rw [e8, show m 8 - 0 = m 8 by omega, rl] at o9 o10
  rw [e8] at o7
  have frc : frC C (cpC C (m 0) 61) := fun j hj => by
    funext i
    exact cpC_ne (by omega) (by unfold dS; omega)
  have cls : EV sc 70 [vR 1] (SK, C) = some (none, (SK, C')) := by rw [K70_head hQ, o1]
  have mdl : ∀ ν : xM, ν 140 = m → ∃ ν' : xM, EV sc 215 [vR 139] (SK, ν) = AT sc 215 15 [vR 139, vN, vI 0, vN] [] (SK, ν') ∧ ν' 140 = w' ∧ frM ν ν' := fun ν hν => by
    obtain ⟨ν0, t1, t2, t3⟩ := m215_1 (sc := sc) a4 a7 (m 8).toNat 0 [] ν (Int.le_refl _) (by omega) hν isL.nil (by simp)
    rw [List.nil_append] at t1 t2
    have hν0 : ν0 140 = m := by rw [t3 140 (by omega)]; exact hν
    obtain ⟨ν1, v1, v2, v3⟩ := r1 ν0 hν0
    obtain ⟨ν2, v4, v5, v6⟩ := r212 ν1 v2
    have v1' : EV sc 168 [vR 139, vI (m 0), vI 61] (SK, ν0) = some (none, (SK, ν1)) := v1
    have v4' : EV sc 212 [vR 139, vI (-1)] (SK, ν1) = some (none, (SK, ν2)) := v4
    obtain ⟨ν3, q1, q2, q3⟩ := o10 ν2 v5 (fun t x hx => by
      rw [show (0 : Int).toNat + t = t by omega, v6 142 (by omega), v3 142 (by omega)]
      exact t2 t x hx)
    refine ⟨ν3, ?_, q2, frM.tr ⟨fun k hk => t3 k (by omega), by rw [t3 139 (by omega)]⟩ (v3.tr (v6.tr q3)).M⟩
    have e1 : AT sc 215 1 [vR 139, vI 0, vI 0, vN] [] (SK, ν) = AT sc 215 5 [vR 139, vI (rls m (m 8).toNat 0).length, vN, vN] [] (SK, ν0) := t1
    have e9 : ν2 140 9 = 1 := by rw [v5]; exact g0.1.1
    simp (disch := omega) only [V215, B215_0, e1, B215_5, hν0, v1', B215_6, v4', B215_7, e9, xcI_some, xcV_some, if_pos, if_neg, xg_in, wr_of, if_true, if_false, or_true, true_or]
    rw [show (1 : Int) - 1 = 0 by omega]
    exact q1
  obtain ⟨⟨p1, p2, p3, p4, p5, p6⟩, ⟨p7, p8⟩, p9⟩ := id o4
  by_cases hn : n' = 0
  · subst hn
    rw [if_pos rfl] at p8
    refine ⟨C', up1 w' 9 0, cls, fun ν hν => ?_, frc.tr o2, yQ_K (yQ_fr o3 (fun i hi => up1_ne hi.1) (fun _ _ _ => rfl)) (yP0 up1_eq p7 p8), Or.inr up1_eq, by rw [up1_ne (by omega)]; exact o7, by rw [up1_ne (by omega), o6, nrm 10 (by omega) (by omega)], fun u l hu hk => ?_⟩
    · obtain ⟨ν', q1, q2, q3⟩ := mdl ν hν
      refine ⟨up2 ν' 140 9 0, ?_, by rw [up2_row, q2], q3.tr (.up (by omega))⟩
      have z1 : w' (49104 + (0 : Int)).toNat = 0 := p2
      rw [q1]
      simp (disch := omega) only [B215_15, q2, z1, p1, B215_17, xcI_some, xcV_some, if_pos, if_neg, xg_in, wr_of, if_true, if_false, or_true, true_or]
      rw [show (1 : Int) - 1 = 0 by omega, show (9 : Int).toNat = 9 from rfl]
    · right
      rw [up1_ne (by omega)]
      have hku : ¬ ukd (nrM m1 0 (-1)) u 2 := fun x => hk (by
        have hmem : u ∈ rls m (m 8).toNat 0 := by rw [hu]; exact List.mem_cons_self
        have gu : ∀ (n : Nat) (i : Int), 0 ≤ i → i + n ≤ m 8 → u ∈ rls m n i → 0 ≤ u ∧ u < m 7 := by
          intro n
          induction n with
          | zero => intro i _ _ hh; exact absurd hh List.not_mem_nil
          | succ n ih =>
            intro i i0 i1 hh
            by_cases r : rfA m i
            · rw [rls_t r] at hh
              rcases List.mem_cons.mp hh with y | y
              · have g := a7.2.2.2.1 i i0 (by omega)
                rw [y]
                exact ⟨g.2.1, g.2.2.1⟩
              · exact ih (i + 1) (by omega) (by omega) y
            · rw [rls_f r] at hh
              exact ih (i + 1) (by omega) (by omega) hh
        have gu' := gu (m 8).toNat 0 (Int.le_refl _) (by omega) hmem
        have gp := (a4.2.2.2 u gu'.1 gu'.2).2.2.2
        unfold ukd at x ⊢
        rw [nrm (41604 + u).toNat (by omega) (by omega), nrm (41964 + u).toNat (by omega) (by omega)] at x
        rcases x with x | x
        · exact Or.inl x
        · rw [nrm _ (by omega) (by omega)] at x
          exact Or.inr x)
      have := o9 rfl u l hu hku
      rcases this with y | y
      · exact absurd rfl y
      · exact y
  · refine ⟨C', w', cls, fun ν hν => ?_, frc.tr o2, yQ_K o3 (gP_yP o4 hn), Or.inl ⟨p1, p3, (o5 hn).1, (o5 hn).2⟩, o7, by rw [o6, nrm 10 (by omega) (by omega)], fun _ _ _ _ => Or.inl p1⟩
    obtain ⟨ν', q1, q2, q3⟩ := mdl ν hν
    refine ⟨up2 ν' 140 9 1, ?_, by rw [up2_row, q2, up1_same p1], q3.tr (.up (by omega))⟩
    have z1 : w' (49104 + (0 : Int)).toNat = n' := p2
    rw [q1]
    simp (disch := omega) only [B215_15, q2, z1, p1, B215_16, B215_17, xcI_some, xcV_some, if_pos, if_neg, xg_in, wr_of, if_true, if_false, or_true, true_or]
    rw [show (1 : Int) - 0 = 1 by omega, show (9 : Int).toNat = 9 from rfl]
theorem fsL_m1 : (fun i => rfA m i ∧ ((-1 : Int) = -1 ∨ ukd m (lnA m i) (-1))) = rfA m := by
  funext i
  exact propext ⟨fun x => x.1, fun x => ⟨x, Or.inl rfl⟩⟩
theorem fsL_1 : (fun i => rfA m i ∧ ((1 : Int) = -1 ∨ ukd m (lnA m i) 1)) = fun i => rfA m i ∧ ukd m (lnA m i) 1 := by
  funext i
  exact propext ⟨fun x => ⟨x.1, x.2.elim (fun y => absurd y (by omega)) id⟩, fun x => ⟨x.1, Or.inr x.2⟩⟩
theorem finds_loop : ∀ (N : Nat) (C : xM) (m : Nat → Int) (look : Int), yK C m → m 9 = 0 → m 8 ≤ N → 0 ≤ look → look + m 8 ≤ 60 → ∃ (b : Int) (C' : xM) (m' : Nat → Int), (b = 0 ∨ b = 1) ∧ AT sc 67 1 [vR 1, vI 1, vI look, vN, vN] [] (SK, C) = some (some (vI b), (SK, C')) ∧
    (∀ ν : xM, ν 140 = m → ∃ ν' : xM, AT sc 216 2 [vR 139, vI (fsL m (rfA m) (m 8).toNat 0), vN] [] (SK, ν) = some (some (vI b), (SK, ν')) ∧ ν' 140 = m' ∧ frM ν ν') ∧ frC C C' ∧ yK C' m' ∧ m' 10 = m 10 ∧ (b = 1 → m' 9 = 1 ∧ frsh m') ∧ (b = 0 → m' 9 = 0) := by
  intro N
  induction N using Nat.strongRecOn with
  | _ N ih =>
    intro C m look h h9 hN look0 look1
    obtain ⟨a1, a2, a3, a4, a5, a6, a7, a8, a9, a10, a11⟩ := id h
    have hQ := yQ_of h
    have n7 : 0 ≤ m 7 ∧ m 7 ≤ 60 := ⟨a4.1, a4.2.1⟩
    have n8 : 0 ≤ m 8 ∧ m 8 ≤ 60 := ⟨a7.1, a7.2.1⟩
    have c8 := a7.2.2.1
    have c97 := a8.1.2.2
    obtain ⟨k68a, k68b⟩ := K68 (sc := sc) a4 a7
    have lnn : ∀ k : Int, 0 ≤ k → k < 0 + ((m 8).toNat : Int) → lnA m k ≠ -1 := fun k k0 k1 => by
      have := (a7.2.2.2.1 k k0 (by omega)).2.1
      unfold lnA
      omega
    have h98 : ∀ (D : xM) (w : Nat → Int), yK D w → EV sc 98 [vR 41] (SK, D) = some (some (vI (w 9)), (SK, D)) := fun D w hD => by
      have := hD.2.2.2.2.2.2.2.1.1.2.2
      simp (disch := omega) only [V98, B98_0, this, xcI_some, xcV_some, if_pos, if_neg, xg_in, wr_of, if_true, if_false, or_true, true_or]
    have h82 : ∀ (D : xM) (w : Nat → Int), yK D w → EV sc 82 [vR 38] (SK, D) = some (some (vI (w 8)), (SK, D)) := fun D w hD => by
      have := hD.2.2.2.2.2.2.1.2.2.1
      simp (disch := omega) only [V82, B82_0, this, xcI_some, xcV_some, if_pos, if_neg, xg_in, wr_of, if_true, if_false, or_true, true_or]
    have k98 := h98 C m h
    have k82 := h82 C m h
    rw [h9] at k98
    by_cases hF : fsL m (rfA m) (m 8).toNat 0 = -1
    · have hno : ∀ k : Int, 0 ≤ k → k < m 8 → ¬ rfA m k := fun k k0 k1 => fsL_no (m 8).toNat 0 lnn hF k k0 (by omega)
      have hU : fsL m (fun i => rfA m i ∧ ukd m (lnA m i) 1) (m 8).toNat 0 = -1 := by
        by_cases x : fsL m (fun i => rfA m i ∧ ukd m (lnA m i) 1) (m 8).toNat 0 = -1
        · exact x
        · obtain ⟨k, k0, k1, k2, _⟩ := fsL_ok _ _ x
          exact absurd k2.1 (hno k k0 (by omega))
      have k68 := k68b hU
      rw [hF] at k68
      have c41 := yP_00 a8 h9
      have hQ1 : yQ (cpC C (m 0) 61) m := yQ_W hQ (fun _ _ => rfl) (fun k i hi => cpC_ne (by omega) (dS_W (by omega) hi))
      have hK1 : yK (cpC C (m 0) 61) m := yQ_K hQ1 (yP0 h9 (by rw [cpC_ne (by omega) (by unfold dS; omega)]; exact c41.1) (by rw [cpC_ne (by omega) (by unfold dS; omega)]; exact c41.2))
      have k70 : EV sc 70 [vR 1] (SK, C) = some (none, (SK, cpC C (m 0) 61)) := by
        rw [K70_head hQ, K70_none hQ1 (by rw [cpC_ne (by omega) (by unfold dS; omega)]; exact c41.1) hno (m 8).toNat 0 0 (Int.le_refl _) (by omega) rfl]
      have k98' := h98 _ m hK1
      have k82' := h82 _ m hK1
      rw [h9] at k98'
      refine ⟨0, cpC C (m 0) 61, m, Or.inl rfl, ?_, fun ν hν => ⟨ν, ?_, hν, .rf⟩, fun j hj => by funext i; exact cpC_ne (by omega) (by unfold dS; omega), hK1, rfl, fun x => absurd x (by omega), fun _ => h9⟩
      · rw [B67_1]
        simp (disch := omega) only [k98, B67_2, k82, B67_3, k68, B68_9, B68_11, B68_12, B67_4, k70, B67_5, B67_7, k82', B67_8, B67_9, B67_10, xcI_some, xcV_some, if_pos, if_neg, xg_in, wr_of, if_true, if_false, or_true, true_or]
        rw [B67_1]
        simp (disch := omega) only [B67_11, k98', B67_12, B67_13, B67_14, xcI_some, xcV_some, if_pos, if_neg, xg_in, wr_of, if_true, if_false, or_true, true_or]
        split <;> rfl
      · rw [hF, B216_2]
        simp (disch := omega) only [hν, h9, B216_11, B216_12, B216_13, xcI_some, xcV_some, if_pos, if_neg, xg_in, wr_of, if_true, if_false, or_true, true_or]
    · skip
      have m211a := fun ν : xM => fun hν : ν 140 = m => m211 (sc := sc) (kd := 1) hν a4 a7
      rw [fsL_1] at m211a
      have stp : ∃ (C1 : xM) (m1 : Nat → Int), AT sc 67 3 [vR 1, vN, vI look, vN, vN] [vI (m 8)] (SK, C) = AT sc 67 7 [vR 1, vN, vI look, vI (m 8), vN] [] (SK, C1) ∧ (∀ ν : xM, ν 140 = m → ∃ ν1 : xM, AT sc 216 2 [vR 139, vI (fsL m (rfA m) (m 8).toNat 0), vN] [] (SK, ν) = AT sc 216 9 [vR 139, vN, vN] [] (SK, ν1) ∧ ν1 140 = m1 ∧ frM ν ν1) ∧ frC C C1 ∧ yK C1 m1 ∧ m1 10 = m 10 ∧ m1 8 ≤ m 8 ∧ ((m1 9 = 1 ∧ frsh m1) ∨ (m1 9 = 0 ∧ m1 8 < m 8)) := by
        have al : ∀ (pu : Int), 0 ≤ pu → pu < m 8 → rfA m pu → ∃ (C1 : xM) (m1 : Nat → Int), EV sc 69 [vR 1, vI (lnA m pu)] (SK, C) = some (none, (SK, C1)) ∧ rS m (fun ν => EV sc 214 [vR 139, vI (lnA m pu)] (SK, ν)) (fun ν => some (none, (SK, ν))) m1 ∧ frC C C1 ∧ yK C1 m1 ∧ m1 10 = m 10 ∧ m1 8 ≤ m 8 ∧ ((m1 9 = 1 ∧ frsh m1) ∨ (m1 9 = 0 ∧ m1 8 < m 8)) := fun pu pu0 pu1 pr => by
          obtain ⟨C1, m1, s1, s2, s3, s4, s5, s6⟩ := alone (sc := sc) h h9 pu0 pu1 pr
          exact ⟨C1, m1, s1, s2, s3, s4, s6, by rcases s5 with x | x <;> omega, s5.imp (fun x => ⟨x.1, x.2.1⟩) id⟩
        by_cases hU : fsL m (fun i => rfA m i ∧ ukd m (lnA m i) 1) (m 8).toNat 0 = -1
        · have k68 := k68b hU
          obtain ⟨pf, pf0, pf1, pf2, pf3, _⟩ := fsL_ok _ _ hF
          have gF := a7.2.2.2.1 pf pf0 (by omega)
          have gl : 0 ≤ lnA m pf ∧ lnA m pf < m 7 := ⟨gF.2.1, gF.2.2.1⟩
          rw [← pf3] at k68 hF ⊢
          have k45 := K45 (sc := sc) (k := 2) a4 gl.1 gl.2
          by_cases hw : ukd m (lnA m pf) 2
          · rw [bI_t hw] at k45
            obtain ⟨C1, m1, s1, s2, s3, s4, s5, s6, s7⟩ := al pf pf0 (by omega) pf2
            refine ⟨C1, m1, ?_, fun ν hν => ?_, s3, s4, s5, s6, s7⟩
            · simp (disch := omega) only [B67_3, k68, B68_9, k45, B68_10, B68_12, B67_4, B67_6, s1, xcI_some, xcV_some, if_pos, if_neg, xg_in, wr_of, if_true, if_false, or_true, true_or]
            · obtain ⟨ν1, v1, v2, v3⟩ := s2 ν hν
              have v1' : EV sc 214 [vR 139, vI (lnA m pf)] (SK, ν) = some (none, (SK, ν1)) := v1
              have m7 := m207 (sc := sc) (k := 2) hν a4 gl.1 gl.2
              rw [bI_t hw] at m7
              have m1' := m211a ν hν
              rw [hU] at m1'
              refine ⟨ν1, ?_, v2, v3.M⟩
              rw [B216_2]
              simp (disch := omega) only [hν, h9, m1', B216_3, B216_5, m7, B216_6, v1', B216_7, xcI_some, xcV_some, if_pos, if_neg, xg_in, wr_of, if_true, if_false, or_true, true_or]
          · rw [bI_f hw] at k45
            obtain ⟨C1, m1, s1, s2, s3, s4, s5, s6, s7, s8⟩ := many (sc := sc) h h9
            rw [pf3] at hF hw
            obtain ⟨l, hl⟩ := fsL_rls (m 8).toNat 0 hF
            have pr := s8 _ l hl hw
            rw [← pf3] at hF hw
            refine ⟨C1, m1, ?_, fun ν hν => ?_, s3, s4, s7, s6, ?_⟩
            · simp (disch := omega) only [B67_3, k68, B68_9, k45, B68_10, B68_11, B68_12, B67_4, s1, B67_5, xcI_some, xcV_some, if_pos, if_neg, xg_in, wr_of, if_true, if_false, or_true, true_or]
            · obtain ⟨ν1, v1, v2, v3⟩ := s2 ν hν
              have m7 := m207 (sc := sc) (k := 2) hν a4 gl.1 gl.2
              rw [bI_f hw] at m7
              have m1' := m211a ν hν
              rw [hU] at m1'
              refine ⟨ν1, ?_, v2, v3⟩
              rw [B216_2]
              simp (disch := omega) only [hν, h9, m1', B216_3, B216_5, m7, B216_6, B216_8, v1, xcI_some, xcV_some, if_pos, if_neg, xg_in, wr_of, if_true, if_false, or_true, true_or]
            · rcases s5 with x | x
              · exact Or.inl x
              · exact Or.inr ⟨x, by omega⟩
        · have k68 := k68a hU
          obtain ⟨pf, pf0, pf1, pf2, pf3, _⟩ := fsL_ok _ _ hU
          have gF := a7.2.2.2.1 pf pf0 (by omega)
          have gl : 0 ≤ lnA m pf ∧ lnA m pf < m 7 := ⟨gF.2.1, gF.2.2.1⟩
          rw [← pf3] at k68
          obtain ⟨C1, m1, s1, s2, s3, s4, s5, s6, s7⟩ := al pf pf0 (by omega) pf2.1
          refine ⟨C1, m1, ?_, fun ν hν => ?_, s3, s4, s5, s6, s7⟩
          · simp (disch := omega) only [B67_3, k68, B67_4, B67_6, s1, xcI_some, xcV_some, if_pos, if_neg, xg_in, wr_of, if_true, if_false, or_true, true_or]
          · obtain ⟨ν1, v1, v2, v3⟩ := s2 ν hν
            have v1' : EV sc 214 [vR 139, vI (lnA m pf)] (SK, ν) = some (none, (SK, ν1)) := v1
            have m1' := m211a ν hν
            rw [← pf3] at m1'
            refine ⟨ν1, ?_, v2, v3.M⟩
            rw [B216_2]
            simp (disch := omega) only [hν, h9, m1', B216_3, v1', B216_4, xcI_some, xcV_some, if_pos, if_neg, xg_in, wr_of, if_true, if_false, or_true, true_or]
      obtain ⟨C1, m1, s1, s2, s3, s4, s5, s6, s7⟩ := stp
      have w8 : 0 ≤ m1 8 := s4.2.2.2.2.2.2.1.1
      have k98' := h98 C1 m1 s4
      have k82' := h82 C1 m1 s4
      have b7 := s4.2.2.2.2.2.2.1
      have b4 := s4.2.2.2.1
      have nx : ∀ ν : xM, ν 140 = m → ∃ ν1 : xM, AT sc 216 2 [vR 139, vI (fsL m (rfA m) (m 8).toNat 0), vN] [] (SK, ν) = AT sc 216 2 [vR 139, vI (fsL m1 (rfA m1) (m1 8).toNat 0), vN] [] (SK, ν1) ∧ ν1 140 = m1 ∧ frM ν ν1 := fun ν hν => by
        obtain ⟨ν1, v1, v2, v3⟩ := s2 ν hν
        have x := m211 (sc := sc) (kd := -1) v2 b4 b7
        rw [fsL_m1] at x
        refine ⟨ν1, ?_, v2, v3⟩
        rw [v1]
        simp (disch := omega) only [B216_9, x, B216_10, xcI_some, xcV_some, if_pos, if_neg, xg_in, wr_of, if_true, if_false, or_true, true_or]
      have hd : AT sc 67 1 [vR 1, vI 1, vI look, vN, vN] [] (SK, C) = AT sc 67 3 [vR 1, vN, vI look, vN, vN] [vI (m 8)] (SK, C) := by
        rw [B67_1]
        simp (disch := omega) only [k98, B67_2, k82, xcI_some, xcV_some, if_pos, if_neg, xg_in, wr_of, if_true, if_false, or_true, true_or]
      rcases s7 with ⟨t1, t2⟩ | ⟨t1, t2⟩
      · refine ⟨1, C1, m1, Or.inr rfl, ?_, fun ν hν => ?_, s3, s4, s5, fun _ => ⟨t1, t2⟩, fun x => absurd x (by omega)⟩
        · rw [hd, s1]
          rw [t1] at k98'
          by_cases y : m1 8 < m 8
          · simp (disch := omega) only [B67_7, k82', B67_8, B67_10, xcI_some, xcV_some, if_pos, if_neg, xg_in, wr_of, if_true, if_false, or_true, true_or]
            rw [B67_1]
            by_cases y2 : 60 < look + 1
            · simp (disch := omega) only [B67_11, k98', B67_12, B67_14, xcI_some, xcV_some, if_pos, if_neg, xg_in, wr_of, if_true, if_false, or_true, true_or]
            · simp (disch := omega) only [k98', B67_2, B67_11, B67_12, B67_14, xcI_some, xcV_some, if_pos, if_neg, xg_in, wr_of, if_true, if_false, or_true, true_or]
          · simp (disch := omega) only [B67_7, k82', B67_8, B67_9, B67_10, xcI_some, xcV_some, if_pos, if_neg, xg_in, wr_of, if_true, if_false, or_true, true_or]
            rw [B67_1]
            by_cases y2 : 60 < look + 1
            · simp (disch := omega) only [B67_11, k98', B67_12, B67_14, xcI_some, xcV_some, if_pos, if_neg, xg_in, wr_of, if_true, if_false, or_true, true_or]
            · simp (disch := omega) only [B67_11, k98', B67_12, B67_14, xcI_some, xcV_some, if_pos, if_neg, xg_in, wr_of, if_true, if_false, or_true, true_or]
        · obtain ⟨ν1, v1, v2, v3⟩ := nx ν hν
          refine ⟨ν1, ?_, v2, v3⟩
          rw [v1, B216_2]
          simp (disch := omega) only [v2, t1, B216_11, B216_13, xcI_some, xcV_some, if_pos, if_neg, xg_in, wr_of, if_true, if_false, or_true, true_or]
      · obtain ⟨b, C', m', q1, q2, q3, q4, q5, q6, q7, q8⟩ := ih (m1 8).toNat (by omega) C1 m1 (look + 1) s4 t1 (by omega) (by omega) (by omega)
        refine ⟨b, C', m', q1, ?_, fun ν hν => ?_, s3.tr q4, q5, q6.trans s5, q7, q8⟩
        · rw [hd, s1]
          simp (disch := omega) only [B67_7, k82', B67_8, B67_10, q2, xcI_some, xcV_some, if_pos, if_neg, xg_in, wr_of, if_true, if_false, or_true, true_or]
        · obtain ⟨ν1, v1, v2, v3⟩ := nx ν hν
          obtain ⟨ν2, v4, v5, v6⟩ := q3 ν1 v2
          exact ⟨ν2, v1.trans v4, v5, v3.tr v6⟩
end

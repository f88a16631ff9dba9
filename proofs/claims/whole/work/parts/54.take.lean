/-! a run that fails nothing, the whole -/
theorem top_doom {C : xM} {m : Nat → Int} (h : yK C m) {top : Int} (ht : m 9 = top) : yK (if 0 < top then up2 C 49 (top - 1).toNat 1 else C) (up1 m (49119 + top).toNat 1) ∧ wk (up1 m (49119 + top).toNat 1) = wk m := by
  have a8 := h.2.2.2.2.2.2.2.1
  have n7 : 0 ≤ m 7 ∧ m 7 ≤ 60 := ⟨h.2.2.2.1.1, h.2.2.2.1.2.1⟩
  have n9 := a8.1
  have e : ∀ i : Nat, (i : Int) ≠ 49119 + top → up1 m (49119 + top).toNat 1 i = m i := fun i h1 => up1_ne (by omega)
  have eC : ∀ k i : Nat, k ≠ 49 ∨ (i : Int) ≠ top - 1 → (if 0 < top then up2 C 49 (top - 1).toNat 1 else C) k i = C k i := fun k i hi => by
    by_cases t : 0 < top
    · rw [if_pos t, up2_ne (by omega)]
    · rw [if_neg t]
  have ew : allU (up1 m (49119 + top).toNat 1) (m 9).toNat = allU m (m 9).toNat := allU_fr _ fun r hr => by
    have := rowU_le (m := m) _ r hr
    have h8 := a8.2.2.1
    have g := yP_r a8 (r := r) (by omega)
    exact ⟨e _ (by omega), fun k hk => e _ (by omega)⟩
  have e9 : up1 m (49119 + top).toNat 1 9 = m 9 := e 9 (by omega)
  have ewk : wk (up1 m (49119 + top).toNat 1) = wk m := by
    unfold wk
    rw [e9, ew]
  refine ⟨yQ_K (yQ_fr (yQ_of h) (fun i hi => e i (by omega)) (fun k i hk => eC k i (by omega))) ?_, ewk⟩
  obtain ⟨q1, q2, q3, q4, q5, q6⟩ := a8
  unfold yP
  rw [e9, ew]
  refine ⟨by rw [eC 41 7 (by omega)]; exact q1, by rw [eC 41 6 (by omega)]; exact q2, q3, fun r r0 r1 => ?_, fun i u hi => ?_, ?_⟩
  · obtain ⟨g1, g2, g3, g4, g5, g6⟩ := q4 r r0 r1
    by_cases er : r = top - 1
    · have p1 : up1 m (49119 + top).toNat 1 (49120 + r).toNat = 1 := by rw [show (49120 + r).toNat = (49119 + top).toNat by omega]; exact up1_eq
      have p2 : (if 0 < top then up2 C 49 (top - 1).toNat 1 else C) 49 r.toNat = 1 := by rw [if_pos (by omega), er]; exact up2_eq
      rw [p1, p2, e _ (by omega), e _ (by omega), e _ (by omega), eC 47 _ (by omega), eC 51 _ (by omega), eC 53 _ (by omega)]
      exact ⟨g1, g2, rfl, g4, g5, Or.inr rfl⟩
    · rw [e _ (by omega), e _ (by omega), e _ (by omega), e _ (by omega), eC 47 _ (by omega), eC 49 _ (by omega), eC 51 _ (by omega), eC 53 _ (by omega)]
      exact ⟨g1, g2, g3, g4, g5, g6⟩
  · obtain ⟨g1, g2, g3, g4, g5⟩ := q5 i u hi
    rw [e _ (by omega), e 7 (by omega), e (41724 + u).toNat (by omega), eC 43 _ (by omega), eC 45 _ (by omega)]
    exact ⟨g1, g2, g3, g4, g5⟩
  · rw [chU_fr (m := m) _ (fun u hu => by
      obtain ⟨i, hi⟩ := List.getElem?_of_mem hu
      have g := q5 i u hi
      exact e _ (by omega))]
    exact q6
section
variable {sc : Nat × (Nat → Int)} {C : xM} {m : Nat → Int}
theorem tP_fr {C' : xM} {m' : Nat → Int} {top : Int} {K L : List Int} (h : tP C m top K L) (h7 : m 7 ≤ 60) (eC : ∀ k i : Nat, (k = 41 ∨ k = 43 ∨ k = 45 ∨ k = 47 ∨ k = 49 ∨ k = 51 ∨ k = 53) → C' k i = C k i) (e : ∀ i : Nat, i = 7 ∨ i = 9 ∨ (41964 ≤ i ∧ i < 42024) ∨ (49104 ≤ i ∧ i < 49296) → m' i = m i) (hw : ∀ u ∈ K ++ L, m' (41724 + u).toNat ≠ 0) : tP C' m' top K L := by
  obtain ⟨⟨h1, h2, h3, h4⟩, hU, hn, hr, hL, hl, hT, hrow⟩ := h
  have n8 := hU.2.1
  have lenr : ((rowU m top.toNat).length : Int) = K.length := by rw [hr]
  have lens : (m (49104 + top.toNat)).toNat = K.length := by rw [← rowU_len, hr]
  rw [List.length_append] at n8
  have z : ∀ (b r : Int), (b = 49104 ∨ b = 49120 ∨ b = 49152 ∨ b = 49136) → 0 ≤ r → r < 8 → m' (b + r).toNat = m (b + r).toNat := fun b r hb r0 r1 => e _ (by omega)
  have rw' : ∀ r : Int, 0 ≤ r → r < 8 → rwC C m r → rwC C' m' r := fun r r0 r1 g => by
    unfold rwC at g ⊢
    rw [z 49104 r (by omega) r0 r1, z 49120 r (by omega) r0 r1, z 49152 r (by omega) r0 r1, z 49136 r (by omega) r0 r1, eC 47 _ (by omega), eC 49 _ (by omega), eC 51 _ (by omega), eC 53 _ (by omega)]
    exact g
  refine ⟨⟨by rw [e 9 (by omega)]; exact h1, h2, h3, by rw [eC 41 7 (by omega)]; exact h4⟩, ⟨by rw [eC 41 6 (by omega)]; exact hU.1, hU.2.1, fun i u hi => ?_⟩, ?_, ?_, ?_, by rw [z 49104 top (by omega) h2 h3]; exact hl, rw' top h2 h3 hT, fun r r0 r1 => ⟨rw' r r0 (by omega) (hrow r r0 r1).1, by rw [z 49104 r (by omega) r0 (by omega)]; exact (hrow r r0 r1).2⟩⟩
  · obtain ⟨g1, g2, g3, g4, g5⟩ := hU.2.2 i u hi
    rw [e (41964 + u).toNat (by omega), e 7 (by omega), eC 43 _ (by omega), eC 45 _ (by omega)]
    exact ⟨g1, g2, g3, g4, hw u (List.mem_of_getElem? hi)⟩
  · rw [chU_fr (m := m) _ (fun u hu => by
      obtain ⟨i, hi⟩ := List.getElem?_of_mem hu
      have g := hU.2.2 i u hi
      exact e _ (by omega))]
    exact hn
  · rw [rowU_fr (e _ (by omega)) (fun k hk => e _ (by omega))]
    exact hr
  · rw [allU_fr (m := m) _ (fun r hr' => by
      have g := rowU_le (m := m) _ r hr'
      rw [hL] at g
      exact ⟨e _ (by omega), fun k hk => e _ (by omega)⟩)]
    exact hL
theorem take {ρ : Int → Int → Int} {top : Int} {K L : List Int} (h : yK C m) (hT : tP C m top K L) (hK : K ≠ []) (hr : ∀ u ∈ K, rdy m u) (hS : ySl C m 61 61) (ho : oB ρ m) (hρ : oSl ρ m 61) : ∃ (C' : xM) (m' : Nat → Int), EV sc 77 [vR 1] (SK, C) = some (none, (SK, C')) ∧ (∀ ν : xM, ν 140 = m → isL (ν 143) (chU m K) → ∃ ν' : xM, AT sc 220 23 [vR 139, vI top, vI (chU m K).length, vI (-1), vN, vN, vN, vN, vN, vN, vN] [] (SK, ν) = some (none, (SK, ν')) ∧ ν' 140 = m' ∧ frR ν ν') ∧ frC C C' ∧ yK C' m' ∧ wk m' = L ∧ m' 9 = top ∧ m' 10 = m 10 := by
  obtain ⟨a1, a2, a3, a4, a5, a6, a7, a8, a9, a10, a11⟩ := id h
  have n7 : 0 ≤ m 7 ∧ m 7 ≤ 60 := ⟨a4.1, a4.2.1⟩
  have n0 : 0 ≤ m 0 ∧ m 0 ≤ 60 ∧ C 2 3 = m 0 := a6.1
  have n1 : 0 ≤ m 1 ∧ m 1 ≤ 1152 ∧ C 2 4 = m 1 := a6.2.1
  have n8 : 0 ≤ m 8 ∧ m 8 ≤ 60 := ⟨a7.1, a7.2.1⟩
  obtain ⟨⟨h9, t0, t8, c41⟩, hU, hnd, hrK, hL, hl, hrt, hrow⟩ := id hT
  have hw := (tP_yP hT hK).2
  have hKb : ∀ u ∈ K, 0 ≤ u ∧ u < m 7 := fun u hu => by
    obtain ⟨i, hi⟩ := List.getElem?_of_mem (List.mem_append_left L hu)
    have g := hU.2.2 i u hi
    exact ⟨g.2.2.1, g.2.2.2.1⟩
  have hc := chU_in a4 hKb
  have len : (chU m K).length ≤ 16 := by
    have g := chU_len (m := m) K
    have g2 := hU.2.1
    rw [List.length_append] at g2
    omega
  have hcw : ∀ c ∈ chU m K, m (41724 + c).toNat = 1 := fun c hcc => by
    unfold chU at hcc
    obtain ⟨u, hu, hcu⟩ := List.mem_flatMap.mp hcc
    have g := hr u hu
    by_cases p : m (41964 + u).toNat = -1
    · rw [if_pos p] at hcu
      rw [List.mem_singleton.mp hcu]
      exact g.1.1
    · rw [if_neg p] at hcu
      rcases List.mem_cons.mp hcu with x | x
      · rw [x]; exact g.1.1
      · rw [List.mem_singleton.mp x]
        rcases g.2 with y | y
        · exact absurd y p
        · exact y.1
  have hinj : ∀ (i j : Nat) (c : Int), (chU m K)[i]? = some c → (chU m K)[j]? = some c → i = j := fun i j c hi hj => by
    have nd : (chU m K).Nodup := List.Nodup.sublist (chU_sub (List.sublist_append_left K L)) hnd
    exact (List.getElem?_inj (List.getElem?_eq_some_iff.mp hi).1 nd).mp (hi.trans hj.symm)
  obtain ⟨c0, i0, hc0⟩ : ∃ (c : Int) (i : Nat), (chU m K)[i]? = some c := by
    rcases hk : K with _ | ⟨u, l⟩
    · exact absurd hk hK
    · exact ⟨u, List.getElem?_of_mem (mem_chU.mpr (Or.inl rfl))⟩
  have hc0m := List.mem_of_getElem? hc0
  have hc0b := hc c0 hc0m
  have hc0w := hcw c0 hc0m
  have n60 : m 0 < 60 := by
    have hex : ∀ i : Nat, ∃ c : Int, ((i : Int) < m 0 → 0 ≤ c ∧ c < m 7 ∧ m (41724 + c).toNat = 4 ∧ m (41784 + c).toNat = i + 1) ∧ (m 0 ≤ i → c = c0) := fun i => by
      by_cases x : (i : Int) < m 0
      · obtain ⟨c, g1, g2, g3, g4⟩ := a11.1 (i + 1) (by omega) (by omega)
        exact ⟨c, fun _ => ⟨g1, g2, g3, g4⟩, fun y => by omega⟩
      · exact ⟨c0, fun y => absurd y x, fun _ => rfl⟩
    obtain ⟨f, hf⟩ := Classical.axiomOfChoice hex
    have g := pig (m 7).toNat ((m 0).toNat + 1) f (fun i hi => by
      by_cases x : (i : Int) < m 0
      · have g := (hf i).1 x
        omega
      · rw [(hf i).2 (by omega)]
        omega) (fun i j hi hj e => by
      by_cases x : (i : Int) < m 0
      · have gi := (hf i).1 x
        by_cases y : (j : Int) < m 0
        · have gj := (hf j).1 y
          have a := gi.2.2.2
          rw [e, gj.2.2.2] at a
          omega
        · rw [(hf j).2 (by omega)] at e
          have a := gi.2.2.1
          rw [e, hc0w] at a
          omega
      · by_cases y : (j : Int) < m 0
        · have gj := (hf j).1 y
          rw [(hf i).2 (by omega)] at e
          have a := gj.2.2.1
          rw [← e, hc0w] at a
          omega
        · omega)
    omega
  have hl61 : ∀ f : Int, 0 ≤ f → f < 8 → 0 ≤ m (12 + 8 * (61 : Int) + f).toNat ∧ m (12 + 8 * (61 : Int) + f).toNat ≤ 24 := fun f f0 f1 => by
    have g := hS f f0 f1
    exact ⟨g.2.1, g.2.2.1⟩
  obtain ⟨w, r1, x1, x2⟩ := m168 (sc := sc) (m := m) (s := 61) (t := m 0 + 1) (by omega) (by omega) (by omega) (by omega) (by omega) hl61
  have x1' : ∀ i : Nat, ¬ ((20 + 8 * m 0 ≤ i ∧ (i : Int) < 28 + 8 * m 0) ∨ (844 + 320 * m 0 ≤ i ∧ (i : Int) < 1164 + 320 * m 0) ∨ (21324 + 320 * m 0 ≤ i ∧ (i : Int) < 21644 + 320 * m 0)) → w i = m i := fun i hi => x1 i (by unfold aS; omega)
  have k14 := K14 (sc := sc) (μ := up2 C 2 3 (m 0 + 1)) (s := 61) (t := m 0 + 1) (by omega) (by omega) (by omega) (by omega)
  have e1 : ∀ i : Nat, i ≠ 0 → ¬ ((20 + 8 * m 0 ≤ i ∧ (i : Int) < 28 + 8 * m 0) ∨ (844 + 320 * m 0 ≤ i ∧ (i : Int) < 1164 + 320 * m 0) ∨ (21324 + 320 * m 0 ≤ i ∧ (i : Int) < 21644 + 320 * m 0)) → up1 w 0 (m 0 + 1) i = m i := fun i h0 hi => by rw [up1_ne h0, x1' i hi]
  have f1 : ∀ k i : Nat, (k ≠ 2 ∨ i ≠ 3) → ¬ ((k = 4 ∧ 8 + m 0 * 8 ≤ i ∧ (i : Int) < 16 + m 0 * 8) ∨ (k = 3 ∧ 192 + m 0 * 192 ≤ i ∧ (i : Int) < 384 + m 0 * 192)) → cpC (up2 C 2 3 (m 0 + 1)) 61 (m 0 + 1) k i = C k i := fun k i h0 hi => by
    rw [cpC_ne (by omega) (by unfold dS; omega), up2_ne (by omega)]
  have q23 : cpC (up2 C 2 3 (m 0 + 1)) 61 (m 0 + 1) 2 3 = m 0 + 1 := by rw [cpC_ne (by omega) (by unfold dS; omega), up2_eq]
  have q0 : up1 w 0 (m 0 + 1) 0 = m 0 + 1 := up1_eq
  have ve : ∀ i : Nat, ¬ ((20 + 8 * m 0 ≤ i ∧ (i : Int) < 28 + 8 * m 0) ∨ (844 + 320 * m 0 ≤ i ∧ (i : Int) < 1164 + 320 * m 0) ∨ (21324 + 320 * m 0 ≤ i ∧ (i : Int) < 21644 + 320 * m 0)) → vM (m 0) (up1 w 0 (m 0 + 1)) i = m i := fun i hi => by
    unfold vM
    by_cases z : i = 0
    · subst z
      rw [up1_eq]
    · rw [up1_ne z, e1 i z hi]
  have vf : ∀ k i : Nat, ¬ ((k = 4 ∧ 8 + m 0 * 8 ≤ i ∧ (i : Int) < 16 + m 0 * 8) ∨ (k = 3 ∧ 192 + m 0 * 192 ≤ i ∧ (i : Int) < 384 + m 0 * 192)) → vC (m 0) (cpC (up2 C 2 3 (m 0 + 1)) 61 (m 0 + 1)) k i = C k i := fun k i hi => by
    unfold vC
    by_cases z : k = 2 ∧ i = 3
    · obtain ⟨rfl, rfl⟩ := z
      rw [up2_eq, n0.2.2]
    · rw [up2_ne (by omega), f1 k i (by omega) hi]
  have hQ1 : yQ (vC (m 0) (cpC (up2 C 2 3 (m 0 + 1)) 61 (m 0 + 1))) (vM (m 0) (up1 w 0 (m 0 + 1))) := by
    have e := ve
    have eC := vf
    exact ⟨yT_fr a1 (fun k i hk => eC k i (by unfold dT at hk; omega)) (fun i hi => e i (by unfold aT at hi; omega)), yL_fr a2 (eC 1 6 (by omega)) (e 5 (by omega)), yG_fr a3 (fun k i hk => eC k i (by omega)) (fun i hi => e i (by omega)), yA_fr a4 (fun k i hk => eC k i (by unfold dA at hk; omega)) (fun i hi => e i (by unfold aA at hi; omega)), yE_fr a5 a4 (fun k i hk => eC k i (by unfold dE at hk; omega)) (fun i _ _ => eC 5 i (by omega)) (by rw [e 1 (by omega)]; exact Int.le_refl _) (fun i hi => e i (by unfold aE at hi; omega)), yB_fr a6 ⟨eC 2 3 (by omega), eC 2 4 (by omega)⟩ ⟨e 0 (by omega), e 1 (by omega)⟩ (fun s _ _ k i hk => eC k i (by unfold dS at hk; omega)) (fun i _ _ => eC 5 i (by omega)) (fun s _ _ i hi => e i (by unfold aS at hi; omega)), yW_fr a7 ⟨a4.1, a4.2.1⟩ (fun k i hk => eC k i (by omega)) (fun i hi => e i (by omega)), yO_fr a9 a4 a6 a5 ⟨e 0 (by omega), e 7 (by omega)⟩ (fun s _ _ i hi => e i (by unfold aS at hi; omega)) (fun i hi => e i (by omega)), yM_fr a10 a4 (fun i hi => e i (by omega)), yN_fr a11 a4 (fun i hi => e i (by omega)) (fun u u0 u1 h => by rw [e (41724 + u).toNat (by omega)]; exact h) (fun u u0 u1 h => by rw [e (41724 + u).toNat (by omega)] at h; exact h)⟩
  have hP1 : yP (cpC (up2 C 2 3 (m 0 + 1)) 61 (m 0 + 1)) (up1 w 0 (m 0 + 1)) := yP_fr a8 (by rw [e1 7 (by omega) (by omega)]; exact Int.le_refl _) (fun k i hk => f1 k i (by omega) (by omega)) (fun i hi => e1 i (by omega) (by omega)) (fun u u0 u1 _ => e1 (41964 + u).toNat (by omega) (by omega)) (fun u u0 u1 hu => by rw [e1 (41724 + u).toNat (by omega) (by omega)]; exact hu)
  obtain ⟨C2, m2, y1, y2, y3, y4, y5, y6, y7, y8, y9, y10⟩ := take_loop (sc := sc) (n := m 0) (x := m 0 + 1) (top := top) len hinj (chU m K).length 0 0 _ _ hQ1 hP1 q23 q0 (fun i c hi => by
    rw [chw_fr a8 n7.2 (fun i hi => e1 i (by omega) (by omega)), hw]
    exact gl_K hi) rfl (by omega) (fun i c _ hi => by
    have g := hc c (List.mem_of_getElem? hi)
    rw [e1 7 (by omega) (by omega), e1 _ (by omega) (by omega)]
    exact ⟨g.1, g.2, hcw c (List.mem_of_getElem? hi)⟩)
  have hS1 : ySl (cpC (up2 C 2 3 (m 0 + 1)) 61 (m 0 + 1)) (up1 w 0 (m 0 + 1)) (m 0 + 1) (m 0 + 1) := fun f f0 f1 => by
    have g := cpC_yF (t := m 0 + 1) (yF_eq (C' := up2 C 2 3 (m 0 + 1)) (hS f f0 f1) (up2_k (by omega)) (up2_k (by omega)) (up2_k (by omega))) (by omega) (by omega) f0 f1
    have sl : slE m (up1 w 0 (m 0 + 1)) 61 (m 0 + 1) f := by
      have z := x2 f f0 f1
      have g24 := hl61 f f0 f1
      exact ⟨by rw [up1_ne (by omega)]; exact z.1, fun i i0 i1 => ⟨by rw [up1_ne (by omega)]; exact (z.2 i i0 i1).1, by rw [up1_ne (by omega)]; exact (z.2 i i0 i1).2⟩⟩
    exact slE_yF g sl (e1 1 (by omega) (by omega))
  have hρ1 : oSl ρ (up1 w 0 (m 0 + 1)) (m 0 + 1) := fun f f0 f1 => by
    have sl : slE m (up1 w 0 (m 0 + 1)) 61 (m 0 + 1) f := by
      have z := x2 f f0 f1
      have g24 := hl61 f f0 f1
      exact ⟨by rw [up1_ne (by omega)]; exact z.1, fun i i0 i1 => ⟨by rw [up1_ne (by omega)]; exact (z.2 i i0 i1).1, by rw [up1_ne (by omega)]; exact (z.2 i i0 i1).2⟩⟩
    rw [slE_fi sl]
    exact hρ f f0 f1
  have hS2 : ySl C2 m2 (m 0 + 1) (m 0 + 1) := fun f f0 f1 => by
    exact yF_fr (hS1 f f0 f1) (fun k i hk => y7 k i (by unfold dS at hk; omega)) (fun i _ _ => y7 5 i (by omega)) (by rw [y8 1 (by omega)]; exact Int.le_refl _) (fun i hi => y8 i (by unfold aS at hi; omega)) (by omega) (by omega) ⟨f0, f1⟩
  have hρ2 : oSl ρ m2 (m 0 + 1) := fun f f0 f1 => by
    have g24 := (hS1 f f0 f1).2.2.1
    have sl : slE (up1 w 0 (m 0 + 1)) m2 (m 0 + 1) (m 0 + 1) f := ⟨y8 _ (by omega), fun i i0 i1 => ⟨y8 _ (by omega), y8 _ (by omega)⟩⟩
    rw [slE_fi sl]
    exact hρ1 f f0 f1
  have m2e : ∀ i : Nat, i ≠ 8 ∧ (i < 41724 ∨ 41844 ≤ i) ∧ (i < 49044 ∨ 49104 ≤ i) → i ≠ 0 → ¬ ((20 + 8 * m 0 ≤ i ∧ (i : Int) < 28 + 8 * m 0) ∨ (844 + 320 * m 0 ≤ i ∧ (i : Int) < 1164 + 320 * m 0) ∨ (21324 + 320 * m 0 ≤ i ∧ (i : Int) < 21644 + 320 * m 0)) → m2 i = m i := fun i h1 h2 h3 => by rw [y8 i h1, e1 i h2 h3]
  have ho2 : oB ρ (vM (m 0) m2) := by
    refine ⟨fun s f s0 s1 f0 f1 => ?_, fun c k c0 c1 k0 k1 => ?_⟩
    · have v0 : vM (m 0) m2 0 = m 0 := up1_eq
      rw [v0] at s1
      have v : ∀ i : Nat, i ≠ 8 ∧ (i < 41724 ∨ 41844 ≤ i) ∧ (i < 49044 ∨ 49104 ≤ i) → i ≠ 0 → ¬ ((20 + 8 * m 0 ≤ i ∧ (i : Int) < 28 + 8 * m 0) ∨ (844 + 320 * m 0 ≤ i ∧ (i : Int) < 1164 + 320 * m 0) ∨ (21324 + 320 * m 0 ≤ i ∧ (i : Int) < 21644 + 320 * m 0)) → vM (m 0) m2 i = m i := fun i h1 h2 h3 => by
        unfold vM
        rw [up1_ne h2, m2e i h1 h2 h3]
      have hF := a6.2.2 s f s0 s1 f0 f1
      have h24 := hF.2.2.1
      rw [v (12 + 8 * s + f).toNat (by omega) (by omega) (by omega), mkL_fr (m := m) (fun k k0 k1 => v _ (by omega) (by omega) (by omega))]
      exact ho.1 s f s0 s1 f0 f1
    · have v : ∀ i : Nat, i ≠ 8 ∧ (i < 41724 ∨ 41844 ≤ i) ∧ (i < 49044 ∨ 49104 ≤ i) → i ≠ 0 → ¬ ((20 + 8 * m 0 ≤ i ∧ (i : Int) < 28 + 8 * m 0) ∨ (844 + 320 * m 0 ≤ i ∧ (i : Int) < 1164 + 320 * m 0) ∨ (21324 + 320 * m 0 ≤ i ∧ (i : Int) < 21644 + 320 * m 0)) → vM (m 0) m2 i = m i := fun i h1 h2 h3 => by
        unfold vM
        rw [up1_ne h2, m2e i h1 h2 h3]
      rw [v 7 (by omega) (by omega) (by omega)] at c1
      rw [v (41904 + c).toNat (by omega) (by omega) (by omega)] at k1
      have he := ((a5 c c0 c1).1 k k0 k1).2.1
      have hne := (a4.2.2.2 c c0 c1).2.1
      exact yOk_fr (ho.2 c k c0 c1 k0 k1) (by omega) (by omega) (by omega) (fun i hi => v i (by unfold aEe at hi; omega) (by unfold aEe at hi; omega) (by unfold aEe at hi; omega))
  have hwit : ∃ c : Int, 0 ≤ c ∧ c < m2 7 ∧ m2 (41724 + c).toNat = 4 ∧ m2 (41784 + c).toNat = m 0 + 1 := by
    have g := y9 i0 c0 (Nat.zero_le _) hc0
    exact ⟨c0, hc0b.1, by rw [m2e 7 (by omega) (by omega) (by omega)]; exact hc0b.2, g.1, g.2⟩
  have hQ2 : yQ C2 m2 := yQ_add y3 n0.1 n60 y6 y5 hS2 ho2 hρ2 hwit
  have hT2 : tP C2 m2 top K L := tP_fr hT n7.2 (fun k i hk => by rw [y7 k i (by omega), f1 k i (by omega) (by omega)]) (fun i hi => m2e i (by omega) (by omega) (by omega)) (fun u hu => by
    have ew : wk m2 = K ++ L := by rw [wk_fr a8 (fun i hi => m2e i (by omega) (by omega) (by omega)), hw]
    exact (yP_u y4 (by rw [ew]; exact hu)).2.2)
  obtain ⟨d1, d2, d3⟩ := drop_top (sc := sc) hQ2 hT2
  have dw : up1 m2 9 top 9 = top := up1_eq
  obtain ⟨z1, z2⟩ := top_doom d2 dw
  have w51 : C2 51 top.toNat = m2 (49152 + top).toNat := by
    have g := hT2.2.2.2.2.2.2.1
    exact g.2.2.1
  have c417 : C2 41 7 = top + 1 := hT2.1.2.2.2
  have e1t : top + 1 - 1 = top := by omega
  have ek : 49120 + top - 1 = 49119 + top := by omega
  have d417 : dtC C2 K.length (K ++ L).length top 41 7 = top := by unfold dtC; exact up2_eq
  have k14' : EV sc 14 [vR 2, vI 61, vI (m 0 + 1)] (SK, up2 C 2 3 (m 0 + 1)) = some (none, (SK, cpC (up2 C 2 3 (m 0 + 1)) 61 (m 0 + 1))) := k14
  have k15 : EV sc 15 [vR 2] (SK, C) = some (none, (SK, cpC (up2 C 2 3 (m 0 + 1)) 61 (m 0 + 1))) := by
    simp (disch := omega) only [V15, B15_0, B15_1, B15_2, n0.2.2, up2_eq, k14', xcI_some, xcV_some, if_pos, if_neg, xg_in, wr_of, if_true, if_false, or_true, true_or]
  have hck : chU (up1 w 0 (m 0 + 1)) K = chU m K := chU_fr _ fun u hu => by
    have g := hKb u hu
    exact e1 _ (by omega) (by omega)
  have k105 := K105 (sc := sc) hP1 (K := K) (L := L) (top := top) (by rw [wk_fr a8 (fun i hi => e1 i (by omega) (by omega)), hw]) t0 (by rw [e1 9 (by omega) (by omega)]; exact h9) (by rw [e1 _ (by omega) (by omega)]; exact hl)
  rw [hck] at k105
  have m29 : m2 9 = top + 1 := hT2.1.1
  have m2x : m2 10 = m 10 := m2e 10 (by omega) (by omega) (by omega)
  have frc1 : frC C C2 := fun j hj => by
    funext i
    rw [y7 j i (by omega), f1 j i (by omega) (by omega)]
  have mod : ∀ ν : xM, ν 140 = m → isL (ν 143) (chU m K) → ∃ ν' : xM, AT sc 220 23 [vR 139, vI top, vI (chU m K).length, vI (-1), vN, vN, vN, vN, vN, vN, vN] [] (SK, ν) = AT sc 220 33 [vR 139, vI top, vN, vN, vN, vN, vN, vN, vN, vN, vN] [] (SK, ν') ∧ ν' 140 = up1 m2 9 top ∧ frR ν ν' := fun ν hν hR => by
    obtain ⟨ν1, v1, v2, v3⟩ := r1 ν hν
    have v1' : EV sc 168 [vR 139, vI 61, vI (m 0 + 1)] (SK, ν) = some (none, (SK, ν1)) := v1
    have w0 : w 0 = m 0 := x1' 0 (by omega)
    obtain ⟨ν2, u1, u2, u3⟩ := y2 (up2 ν1 140 0 (m 0 + 1)) (by rw [up2_row, v2]) (by rw [up2_k (by omega), v3 143 (by omega)]; exact hR)
    refine ⟨up2 ν2 140 9 top, ?_, by rw [up2_row, u2], v3.tr ((frR.up rfl).tr (u3.tr (frR.up rfl)))⟩
    simp (disch := omega) only [B220_23, B220_26, hν, v1', B220_27, v2, w0, B220_28, u1, B220_32, u2, m29, e1t, xcI_some, xcV_some, if_pos, if_neg, xg_in, wr_of, if_true, if_false, or_true, true_or]
  by_cases hwh : m2 (49152 + top).toNat = 1
  · have o51 : up1 m2 9 top (49152 + top).toNat = 1 := by rw [up1_ne (by omega)]; exact hwh
    refine ⟨_, _, ?_, fun ν hν hR => ?_, ?_, z1, by rw [z2]; exact d3, by rw [up1_ne (by omega), up1_eq], by rw [up1_ne (by omega), up1_ne (by omega), m2x]⟩
    · by_cases t : 0 < top
      · rw [if_pos t]
        simp (disch := omega) only [V77, B77_0, k15, B77_1, k105, B77_2, y1, B77_9, V114, B114_0, B114_1, B114_2, B114_3, B114_4, B114_5, c417, e1t, G_50, gt_in, w51, hwh, d1, d417, S_48, st_in, B77_10, xcI_some, xcV_some, if_pos, if_neg, xg_in, wr_of, if_true, if_false, or_true, true_or]
      · rw [if_neg t]
        simp (disch := omega) only [V77, B77_0, k15, B77_1, k105, B77_2, y1, B77_9, V114, B114_0, B114_1, B114_2, B114_3, B114_4, B114_5, c417, e1t, G_50, gt_in, w51, hwh, d1, d417, S_48, st_in, B77_10, xcI_some, xcV_some, if_pos, if_neg, xg_in, wr_of, if_true, if_false, or_true, true_or]
    · obtain ⟨ν', u1, u2, u3⟩ := mod ν hν hR
      refine ⟨up2 ν' 140 (49119 + top).toNat 1, ?_, by rw [up2_row, u2], u3.tr (frR.up rfl)⟩
      rw [u1, B220_33]
      simp (disch := omega) only [u2, o51, ek, B220_34, xcI_some, xcV_some, if_pos, if_neg, xg_in, wr_of, if_true, if_false, or_true, true_or]
    · by_cases t : 0 < top
      · rw [if_pos t]
        exact frc1.tr (dtC_fr.tr (frC.up (by omega)))
      · rw [if_neg t]
        exact frc1.tr dtC_fr
  · have o51 : ¬ up1 m2 9 top (49152 + top).toNat = 1 := by rw [up1_ne (by omega)]; exact hwh
    refine ⟨_, _, ?_, fun ν hν hR => ?_, frc1.tr dtC_fr, d2, d3, up1_eq, by rw [up1_ne (by omega), m2x]⟩
    · simp (disch := omega) only [V77, B77_0, k15, B77_1, k105, B77_2, y1, B77_9, V114, B114_0, B114_1, B114_2, B114_3, B114_4, B114_5, c417, e1t, G_50, gt_in, w51, hwh, d1, B77_10, xcI_some, xcV_some, if_pos, if_neg, xg_in, wr_of, if_true, if_false, or_true, true_or]
    · obtain ⟨ν', u1, u2, u3⟩ := mod ν hν hR
      refine ⟨ν', ?_, u2, u3⟩
      rw [u1, B220_33]
      simp (disch := omega) only [u2, if_neg o51, B220_34, xcI_some, xcV_some, if_pos, if_neg, xg_in, wr_of, if_true, if_false, or_true, true_or]
end

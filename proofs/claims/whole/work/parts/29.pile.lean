/-! work: its units and their changes; inWork, count, about -/
/-- a list's entry, or -1 -/
def gl (l : List Int) (k : Int) : Int := if k < 0 then -1 else l.getD k.toNat (-1)
theorem gl_neg {l : List Int} {k : Int} (h : k < 0) : gl l k = -1 := if_pos h
theorem gl_nil {k : Int} : gl [] k = -1 := by
  unfold gl
  split
  · rfl
  · exact List.getD_nil
theorem gl_0 {a : Int} {l : List Int} : gl (a :: l) 0 = a := rfl
theorem gl_s {a : Int} {l : List Int} {k : Int} (h : k ≠ 0) : gl (a :: l) k = gl l (k - 1) := by
  unfold gl
  by_cases h0 : k < 0
  · rw [if_pos h0, if_pos (by omega)]
  · rw [if_neg h0, if_neg (by omega), show k.toNat = (k - 1).toNat + 1 by omega, List.getD_cons_succ]
def isL (f : Nat → Int) (l : List Int) : Prop := ∀ (i : Nat) (x : Int), l[i]? = some x → f i = x
theorem isL.nil {f : Nat → Int} : isL f [] := fun i x h => by simp at h
theorem isL.app {f : Nat → Int} {l : List Int} {a : Int} (h : isL f l) : isL (up1 f l.length a) (l ++ [a]) := fun i x hi => by
  by_cases e : i < l.length
  · rw [List.getElem?_append_left e] at hi
    rw [up1_ne (by omega)]
    exact h i x hi
  · rw [List.getElem?_append_right (by omega)] at hi
    by_cases e2 : i = l.length
    · subst e2
      rw [Nat.sub_self] at hi
      rw [up1_eq]
      exact (Option.some.inj hi)
    · have := (List.getElem?_eq_some_iff.mp hi).1
      simp only [List.length_cons, List.length_nil] at this
      omega
theorem gl_left {f : Nat → Int} {l r : List Int} {k : Int} (h : isL f l) (h0 : 0 ≤ k) (h1 : k < l.length) : gl (l ++ r) k = f k.toNat := by
  unfold gl
  rw [if_neg (by omega), List.getD_eq_getElem?_getD, List.getElem?_append_left (by omega)]
  obtain ⟨x, hx⟩ : ∃ x, l[k.toNat]? = some x := ⟨_, List.getElem?_eq_getElem (by omega)⟩
  rw [hx, h _ _ hx]
  rfl
theorem gl_right {l r : List Int} {k : Int} (h1 : (l.length : Int) ≤ k) : gl (l ++ r) k = gl r (k - l.length) := by
  unfold gl
  rw [if_neg (by omega), if_neg (by omega), List.getD_eq_getElem?_getD, List.getD_eq_getElem?_getD, List.getElem?_append_right (by omega), show k.toNat - l.length = (k - l.length).toNat by omega]
theorem drop_cons {l : List Int} {i : Nat} (h : i < l.length) : ∃ u, l[i]? = some u ∧ l.drop i = u :: l.drop (i + 1) := ⟨l[i], List.getElem?_eq_getElem h, List.drop_eq_getElem_cons h⟩
theorem chU_one {m : Nat → Int} {u : Int} {us : List Int} (h : m (41964 + u).toNat = -1) : chU m (u :: us) = u :: chU m us := by
  unfold chU
  rw [List.flatMap_cons, if_pos h]
  rfl
theorem chU_two {m : Nat → Int} {u : Int} {us : List Int} (h : m (41964 + u).toNat ≠ -1) : chU m (u :: us) = u :: m (41964 + u).toNat :: chU m us := by
  unfold chU
  rw [List.flatMap_cons, if_neg h]
  rfl
theorem chU_app {m : Nat → Int} {us vs : List Int} : chU m (us ++ vs) = chU m us ++ chU m vs := List.flatMap_append
theorem chU_len {m : Nat → Int} : ∀ us : List Int, (chU m us).length ≤ 2 * us.length := by
  intro us
  induction us with
  | nil => exact Nat.le_refl _
  | cons u us ih =>
    by_cases h : m (41964 + u).toNat = -1
    · rw [chU_one h, List.length_cons, List.length_cons]; omega
    · rw [chU_two h, List.length_cons, List.length_cons, List.length_cons]; omega
theorem mem_chU {m : Nat → Int} {c u : Int} {us : List Int} : c ∈ chU m (u :: us) ↔ c = u ∨ (m (41964 + u).toNat ≠ -1 ∧ c = m (41964 + u).toNat) ∨ c ∈ chU m us := by
  by_cases h : m (41964 + u).toNat = -1
  · rw [chU_one h, List.mem_cons]
    exact ⟨fun x => x.elim Or.inl (fun y => Or.inr (Or.inr y)), fun x => x.elim Or.inl (fun y => y.elim (fun z => absurd h z.1) Or.inr)⟩
  · rw [chU_two h, List.mem_cons, List.mem_cons]
    exact ⟨fun x => x.elim Or.inl (fun y => y.elim (fun z => Or.inr (Or.inl ⟨h, z⟩)) (fun z => Or.inr (Or.inr z))), fun x => x.elim Or.inl (fun y => y.elim (fun z => Or.inr (Or.inl z.2)) (fun z => Or.inr (Or.inr z)))⟩
def wk (m : Nat → Int) : List Int := allU m (m 9).toNat
theorem mem_allU {m : Nat → Int} {u : Int} : ∀ n r, r < n → u ∈ rowU m r → u ∈ allU m n := by
  intro n
  induction n with
  | zero => intro r h; omega
  | succ n ih =>
    intro r h hu
    unfold allU
    by_cases e : r = n
    · rw [← e]; exact List.mem_append_left _ hu
    · exact List.mem_append_right _ (ih r (by omega) hu)
theorem rowU_take {m : Nat → Int} {r j : Nat} (h : j < (m (49104 + r)).toNat) : (rowU m r).take (j + 1) = (rowU m r).take j ++ [m (49168 + (8 * r + j))] := by
  have e : (rowU m r)[j]? = some (m (49168 + (8 * r + j))) := by
    unfold rowU
    rw [List.getElem?_map, List.getElem?_range h]
    rfl
  rw [List.take_add_one, e]
  rfl
theorem mem_rowU {m : Nat → Int} {r j : Nat} (h : j < (m (49104 + r)).toNat) : m (49168 + (8 * r + j)) ∈ rowU m r := List.mem_map.mpr ⟨j, List.mem_range.mpr h, rfl⟩
/-- a change alone; its unit -/
def fre (m : Nat → Int) (c : Int) : Prop := m (41724 + c).toNat = 1 ∧ (m (41604 + c).toNat ≠ 3 ∨ m (42024 + c).toNat = 1)
def rdy (m : Nat → Int) (c : Int) : Prop := fre m c ∧ (m (41964 + c).toNat = -1 ∨ fre m (m (41964 + c).toNat))
section
variable {sc : Nat × (Nat → Int)} {μ ν : xM} {m : Nat → Int}
theorem yP_u {C : xM} (h : yP C m) {u : Int} (hu : u ∈ wk m) : 0 ≤ u ∧ u < m 7 ∧ m (41724 + u).toNat ≠ 0 := by
  obtain ⟨i, hi⟩ := List.getElem?_of_mem hu
  have g := h.2.2.2.2.1 i u hi
  exact g.2.2
theorem yP_r {C : xM} (h : yP C m) {r : Nat} (hr : (r : Int) < m 9) : 1 ≤ m (49104 + r) ∧ m (49104 + r) ≤ 8 ∧ ∀ u ∈ rowU m r, 0 ≤ u ∧ u < m 7 := by
  have g := (h.2.2.2.1 r (by omega) hr).2.1
  rw [show (49104 + (r : Int)).toNat = 49104 + r by omega] at g
  have g2 := rowU_le (m := m) (m 9).toNat r (by omega)
  have g3 := h.2.2.1
  exact ⟨g, by omega, fun u hu => ⟨(yP_u h (mem_allU _ r (by omega) hu)).1, (yP_u h (mem_allU _ r (by omega) hu)).2.1⟩⟩
theorem K106 (h : yP μ m) {n : Nat} (hn : n ≤ (wk m).length) : EV sc 106 [vR 41, vI n] (SK, μ) = some (some (vI (chU m ((wk m).take n)).length), (SK, μ)) := by
  obtain ⟨h1, h2, h3, h4, h5, h6⟩ := h
  have l : ∀ (k j : Nat) (i x : Int), i = j → j + k = n → 0 ≤ x → x ≤ 2 * i → AT sc 106 1 [vR 41, vI n, vI x, vI i] [] (SK, μ) = some (some (vI (x + (chU m (((wk m).drop j).take k)).length)), (SK, μ)) := by
    intro k
    induction k with
    | zero =>
      intro i j x hi e x0 x1
      rw [B106_1]
      simp (disch := omega) only [B106_5, xcI_some, xcV_some, if_pos, if_neg, xg_in, wr_of, if_true, if_false, or_true, true_or]
      simp [chU]
    | succ k ih =>
      intro j i x hi e x0 x1
      obtain ⟨u, hu, hd⟩ := drop_cons (l := wk m) (i := j) (by omega)
      have g := h5 j u hu
      have ei : i.toNat = j := by omega
      have j8 : j < 8 := by unfold wk at hn; omega
      rw [hd, List.take_succ_cons]
      by_cases d : m (41964 + u).toNat = -1
      · have ih1 := ih (j + 1) (i + 1) (x + 1) (by omega) (by omega) (by omega) (by omega)
        have ev : x + ((u :: chU m (((wk m).drop (j + 1)).take k)).length : Int) = x + 1 + ((chU m (((wk m).drop (j + 1)).take k)).length : Int) := by rw [List.length_cons]; omega
        rw [chU_one d, ev, B106_1]
        simp (disch := omega) only [G_44, gt_in, ei, g.2.1, d, B106_2, B106_3, B106_4, ih1, xcI_some, xcV_some, if_pos, if_neg, xg_in, wr_of, if_true, if_false, or_true, true_or]
      · have ih1 := ih (j + 1) (i + 1) (x + 2) (by omega) (by omega) (by omega) (by omega)
        have ev : x + ((u :: m (41964 + u).toNat :: chU m (((wk m).drop (j + 1)).take k)).length : Int) = x + 2 + ((chU m (((wk m).drop (j + 1)).take k)).length : Int) := by rw [List.length_cons, List.length_cons]; omega
        rw [chU_two d, ev, B106_1]
        simp (disch := omega) only [G_44, gt_in, ei, g.2.1, d, B106_2, B106_3, B106_4, ih1, xcI_some, xcV_some, if_pos, if_neg, xg_in, wr_of, if_true, if_false, or_true, true_or]
  have l0 := l n 0 0 0 (by omega) (by omega) (by omega) (by omega)
  rw [List.drop_zero, Int.zero_add] at l0
  rw [V106, B106_0, l0]
theorem K104 (h : yP μ m) : EV sc 104 [vR 41] (SK, μ) = some (some (vI (chU m (wk m)).length), (SK, μ)) := by
  have g := K106 (sc := sc) h (Nat.le_refl (wk m).length)
  rw [List.take_length] at g
  have e : μ 41 6 = (wk m).length := h.2.1
  simp (disch := omega) only [V104, B104_0, B104_1, e, g, xcI_some, xcV_some, if_pos, if_neg, xg_in, wr_of, if_true, if_false, or_true, true_or]
theorem K107 (h : yP μ m) {x : Int} (x0 : -2147483648 ≤ x) (x1 : x < 2147483648) : EV sc 107 [vR 41, vI x] (SK, μ) = some (some (vI (gl (chU m (wk m)) x)), (SK, μ)) := by
  obtain ⟨h1, h2, h3, h4, h5, h6⟩ := h
  have hl : μ 41 6 = (wk m).length := h2
  have l : ∀ (k j : Nat) (i x : Int), i = j → j + k = (wk m).length → -2147483648 ≤ x → x < 2147483648 → AT sc 107 1 [vR 41, vN, vI x, vI i] [] (SK, μ) = some (some (vI (gl (chU m ((wk m).drop j)) x)), (SK, μ)) := by
    intro k
    induction k with
    | zero =>
      intro j i x hi e x0 x1
      rw [B107_1, List.drop_eq_nil_of_le (by omega), show chU m [] = [] from rfl, gl_nil]
      simp (disch := omega) only [B107_10, hl, xcI_some, xcV_some, if_pos, if_neg, xg_in, wr_of, if_true, if_false, or_true, true_or]
    | succ k ih =>
      intro j i x hi e x0 x1
      obtain ⟨u, hu, hd⟩ := drop_cons (l := wk m) (i := j) (by omega)
      have g := h5 j u hu
      have ei : i.toNat = j := by omega
      have j8 : j < 8 := by unfold wk at e; omega
      rw [hd]
      by_cases xn : x < 0
      · rw [gl_neg xn, B107_1]
        simp (disch := omega) only [B107_10, hl, xcI_some, xcV_some, if_pos, if_neg, xg_in, wr_of, if_true, if_false, or_true, true_or]
      · by_cases xz : x = 0
        · subst xz
          have e0 : gl (chU m (u :: (wk m).drop (j + 1))) 0 = u := by
            by_cases d : m (41964 + u).toNat = -1
            · rw [chU_one d, gl_0]
            · rw [chU_two d, gl_0]
          rw [e0, B107_1]
          simp (disch := omega) only [hl, G_42, gt_in, ei, g.1, B107_2, xcI_some, xcV_some, if_pos, if_neg, xg_in, wr_of, if_true, if_false, or_true, true_or]
        · by_cases d : m (41964 + u).toNat = -1
          · have ih1 := ih (j + 1) (i + 1) (x - 1) (by omega) (by omega) (by omega) (by omega)
            rw [chU_one d, gl_s xz, B107_1]
            by_cases xo : x = 1
            · simp (disch := omega) only [hl, G_44, gt_in, ei, g.2.1, d, B107_3, B107_4, B107_6, B107_7, B107_8, B107_9, ih1, xcI_some, xcV_some, if_pos, if_neg, xg_in, wr_of, if_true, if_false, or_true, true_or]
            · simp (disch := omega) only [hl, G_44, gt_in, ei, g.2.1, d, B107_3, B107_4, B107_6, B107_7, B107_8, B107_9, ih1, xcI_some, xcV_some, if_pos, if_neg, xg_in, wr_of, if_true, if_false, or_true, true_or]
          · by_cases xo : x = 1
            · subst xo
              rw [chU_two d, gl_s (by omega), show (1 : Int) - 1 = 0 from rfl, gl_0, B107_1]
              simp (disch := omega) only [hl, G_44, gt_in, ei, g.2.1, d, B107_3, B107_4, B107_5, xcI_some, xcV_some, if_pos, if_neg, xg_in, wr_of, if_true, if_false, or_true, true_or]
            · have ih1 := ih (j + 1) (i + 1) (x - 2) (by omega) (by omega) (by omega) (by omega)
              rw [chU_two d, gl_s xz, gl_s (by omega), show x - 1 - 1 = x - 2 by omega, B107_1]
              simp (disch := omega) only [hl, G_44, gt_in, ei, g.2.1, d, B107_3, B107_6, B107_7, B107_8, B107_9, ih1, xcI_some, xcV_some, if_pos, if_neg, xg_in, wr_of, if_true, if_false, or_true, true_or]
  have l0 := l (wk m).length 0 0 x (by omega) (by omega) x0 x1
  rw [List.drop_zero] at l0
  rw [V107, B107_0, l0]
theorem K108 (h : yP μ m) {c : Int} (c0 : 0 ≤ c) : EV sc 108 [vR 41, vI c] (SK, μ) = some (some (vI (bI (c ∈ chU m (wk m)))), (SK, μ)) := by
  obtain ⟨h1, h2, h3, h4, h5, h6⟩ := h
  have hl : μ 41 6 = (wk m).length := h2
  have l : ∀ (k j : Nat) (i : Int), i = j → j + k = (wk m).length → AT sc 108 1 [vR 41, vI c, vI i] [] (SK, μ) = some (some (vI (bI (c ∈ chU m ((wk m).drop j)))), (SK, μ)) := by
    intro k
    induction k with
    | zero =>
      intro j i hi e
      rw [B108_1, List.drop_eq_nil_of_le (by omega), bI_f (show ¬ c ∈ chU m [] from List.not_mem_nil)]
      simp (disch := omega) only [B108_6, hl, xcI_some, xcV_some, if_pos, if_neg, xg_in, wr_of, if_true, if_false, or_true, true_or]
    | succ k ih =>
      intro j i hi e
      obtain ⟨u, hu, hd⟩ := drop_cons (l := wk m) (i := j) (by omega)
      have g := h5 j u hu
      have ei : i.toNat = j := by omega
      have j8 : j < 8 := by unfold wk at e; omega
      have ih1 := ih (j + 1) (i + 1) (by omega) (by omega)
      rw [hd, B108_1]
      by_cases e1 : u = c
      · rw [bI_t (mem_chU.mpr (Or.inl e1.symm))]
        simp (disch := omega) only [hl, G_42, gt_in, ei, g.1, B108_2, B108_4, xcI_some, xcV_some, if_pos, if_neg, xg_in, wr_of, if_true, if_false, or_true, true_or]
      · by_cases e2 : m (41964 + u).toNat = c
        · rw [bI_t (mem_chU.mpr (Or.inr (Or.inl ⟨by omega, e2.symm⟩)))]
          simp (disch := omega) only [hl, G_42, G_44, gt_in, ei, g.1, g.2.1, B108_2, B108_3, B108_4, xcI_some, xcV_some, if_pos, if_neg, xg_in, wr_of, if_true, if_false, or_true, true_or]
        · rw [bI_iff (show c ∈ chU m (u :: (wk m).drop (j + 1)) ↔ c ∈ chU m ((wk m).drop (j + 1)) from ⟨fun hc => (mem_chU.mp hc).elim (fun x => absurd x.symm e1) (fun x => x.elim (fun y => absurd y.2.symm e2) id), fun hc => mem_chU.mpr (Or.inr (Or.inr hc))⟩)]
          simp (disch := omega) only [hl, G_42, G_44, gt_in, ei, g.1, g.2.1, B108_2, B108_3, B108_5, ih1, xcI_some, xcV_some, if_pos, if_neg, xg_in, wr_of, if_true, if_false, or_true, true_or]
  have l0 := l (wk m).length 0 0 (by omega) (by omega)
  rw [List.drop_zero] at l0
  rw [V108, B108_0, l0]
theorem m219 (hν : ν 140 = m) {r : Nat} (r8 : r < 8) (n0 : 0 ≤ m (49104 + r)) (n8 : m (49104 + r) ≤ 8) (hu : ∀ u ∈ rowU m r, 0 ≤ u ∧ u < 60) : ∃ ν' : xM, EV sc 219 [vR 139, vI r] (SK, ν) = some (some (vI (chU m (rowU m r)).length), (SK, ν')) ∧ isL (ν' 143) (chU m (rowU m r)) ∧ (∀ k, k ≠ 143 → ν' k = ν k) := by
  have er : (49104 + (r : Int)).toNat = 49104 + r := by omega
  have l : ∀ (k j : Nat) (i x : Int) (ν1 : xM), i = j → j + k = (m (49104 + r)).toNat → ν1 140 = m → (∀ k, k ≠ 143 → ν1 k = ν k) → x = (chU m ((rowU m r).take j)).length → isL (ν1 143) (chU m ((rowU m r).take j)) → ∃ ν' : xM, AT sc 219 1 [vR 139, vI r, vI x, vI i, vN] [] (SK, ν1) = some (some (vI (chU m (rowU m r)).length), (SK, ν')) ∧ isL (ν' 143) (chU m (rowU m r)) ∧ (∀ k, k ≠ 143 → ν' k = ν k) := by
    intro k
    induction k with
    | zero =>
      intro j i x ν1 hi e h1 h2 hx hL
      rw [List.take_of_length_le (by rw [rowU_len]; omega)] at hx hL
      refine ⟨ν1, ?_, hL, h2⟩
      rw [B219_1]
      simp (disch := omega) only [er, h1, B219_3, xcI_some, xcV_some, if_pos, if_neg, xg_in, wr_of, if_true, if_false, or_true, true_or]
      rw [hx]
    | succ k ih =>
      intro j i x ν1 hi e h1 h2 hx hL
      have hj : j < (m (49104 + r)).toNat := by omega
      have ht := rowU_take (m := m) (r := r) hj
      have hm := hu _ (mem_rowU hj)
      have eu : (49168 + 8 * (r : Int) + i).toNat = 49168 + (8 * r + j) := by omega
      have hlen := chU_len (m := m) ((rowU m r).take j)
      have hlen2 : ((rowU m r).take j).length ≤ j := List.length_take_le _ _
      generalize hU : m (49168 + (8 * r + j)) = u at ht hm
      have ex : x.toNat = (chU m ((rowU m r).take j)).length := by omega
      by_cases d : m (41964 + u).toNat = -1
      · have hc : chU m ((rowU m r).take (j + 1)) = chU m ((rowU m r).take j) ++ [u] := by rw [ht, chU_app, chU_one d]; rfl
        obtain ⟨ν', e1, e2, e3⟩ := ih (j + 1) (i + 1) (x + 1) (up2 ν1 143 x.toNat u) (by omega) (by omega) (by rw [up2_k (by omega)]; exact h1) (fun k hk => by rw [up2_k hk]; exact h2 k hk) (by rw [hc, List.length_append, List.length_singleton]; omega) (by rw [hc, up2_row, ex]; exact hL.app)
        refine ⟨ν', ?_, e2, e3⟩
        rw [B219_1]
        simp (disch := omega) only [er, eu, h1, hU, up2_ne, d, B219_2, e1, xcI_some, xcV_some, if_pos, if_neg, xg_in, wr_of, if_true, if_false, or_true, true_or]
      · have hc : chU m ((rowU m r).take (j + 1)) = (chU m ((rowU m r).take j) ++ [u]) ++ [m (41964 + u).toNat] := by rw [ht, chU_app, chU_two d, List.append_assoc]; rfl
        obtain ⟨ν', e1, e2, e3⟩ := ih (j + 1) (i + 1) (x + 1 + 1) (up2 (up2 ν1 143 x.toNat u) 143 (x + 1).toNat (m (41964 + u).toNat)) (by omega) (by omega) (by rw [up2_k (by omega), up2_k (by omega)]; exact h1) (fun k hk => by rw [up2_k hk, up2_k hk]; exact h2 k hk) (by rw [hc, List.length_append, List.length_append, List.length_singleton, List.length_singleton]; omega) (by rw [hc, up2_row, up2_row, show (x + 1).toNat = (chU m ((rowU m r).take j) ++ [u]).length by rw [List.length_append, List.length_singleton]; omega, ex]; exact hL.app.app)
        refine ⟨ν', ?_, e2, e3⟩
        rw [B219_1]
        simp (disch := omega) only [er, eu, h1, hU, up2_ne, d, B219_2, e1, xcI_some, xcV_some, if_pos, if_neg, xg_in, wr_of, if_true, if_false, or_true, true_or]
  obtain ⟨ν', e1, e2, e3⟩ := l (m (49104 + r)).toNat 0 0 0 ν (by omega) (by omega) hν (fun _ _ => rfl) rfl isL.nil
  exact ⟨ν', by rw [V219, B219_0, e1], e2, e3⟩
theorem frM_row {ν ν' : xM} (h : ∀ k, k ≠ 143 → ν' k = ν k) : frM ν ν' := ⟨fun k hk => h k (by omega), by rw [h 139 (by omega)]⟩
theorem op_inWork (h : yAll μ) {x : Int} (x0 : -2147483648 ≤ x) (x1 : x < 2147483648) : yOp sc 151 225 [vI x] μ := by
  obtain ⟨⟨a1, a2, a3, a4, a5, a6, a7, a8, a9, a10, a11⟩, hk⟩ := id h
  have n6 := a1.1
  have n3 := a1.2.1
  have n5 := a2.2
  have n10 : 0 ≤ μ 140 10 ∧ μ 140 10 ≤ 600 := ⟨a3.1, a3.2.1⟩
  have n7 : 0 ≤ μ 140 7 ∧ μ 140 7 ≤ 60 := ⟨a4.1, a4.2.1⟩
  have n0 : 0 ≤ μ 140 0 ∧ μ 140 0 ≤ 60 ∧ μ 2 3 = μ 140 0 := a6.1
  have n1 : 0 ≤ μ 140 1 ∧ μ 140 1 ≤ 1152 ∧ μ 2 4 = μ 140 1 := a6.2.1
  have n8 : 0 ≤ μ 140 8 ∧ μ 140 8 ≤ 60 := ⟨a7.1, a7.2.1⟩
  have n9 := a8.1
  have c7 := a4.2.2.1
  have c8 := a7.2.2.1
  have c10 := a3.2.2.1
  refine .mk h (gl (chU (μ 140) (wk (μ 140))) x) μ (μ 140) ?_ .rf (fun ν hν => ?_) h.1
  · have g := K107 (sc := sc) a8 x0 x1
    simp (disch := omega) only [V151, B151_0, B151_1, g, xcI_some, xcV_some, if_pos, if_neg, xg_in, wr_of, if_true, if_false, or_true, true_or]
  · have l : ∀ (k : Nat) (r x : Int) (ν1 : xM), r = k - 1 → k ≤ (μ 140 9).toNat → -2147483648 ≤ x → x < 2147483648 → ν1 140 = μ 140 → ∃ ν' : xM, AT sc 225 1 [vR 139, vN, vI x, vI r, vN] [] (SK, ν1) = some (some (vI (gl (chU (μ 140) (allU (μ 140) k)) x)), (SK, ν')) ∧ (∀ k, k ≠ 143 → ν' k = ν1 k) := by
      intro k
      induction k with
      | zero =>
        intro r x ν1 hr _ x0 x1 h1
        refine ⟨ν1, ?_, fun _ _ => rfl⟩
        rw [B225_1, show chU (μ 140) (allU (μ 140) 0) = [] from rfl, gl_nil]
        simp (disch := omega) only [B225_7, xcI_some, xcV_some, if_pos, if_neg, xg_in, wr_of, if_true, if_false, or_true, true_or]
      | succ k ih =>
        intro r x ν1 hr hk x0 x1 h1
        have gr := yP_r a8 (r := k) (by omega)
        have er : r = (k : Int) := by omega
        subst er
        obtain ⟨ν2, e1, e2, e3⟩ := m219 (sc := sc) h1 (r := k) (by omega) (by omega) gr.2.1 (fun u hu => by have := gr.2.2 u hu; omega)
        have hlen := chU_len (m := μ 140) (rowU (μ 140) k)
        rw [rowU_len] at hlen
        unfold allU
        rw [chU_app, B225_1]
        by_cases xi : 0 ≤ x ∧ x < (chU (μ 140) (rowU (μ 140) k)).length
        · refine ⟨ν2, ?_, e3⟩
          rw [gl_left e2 xi.1 xi.2]
          simp (disch := omega) only [e1, B225_2, in_t, B225_3, xcI_some, xcV_some, if_pos, if_neg, xg_in, wr_of, if_true, if_false, or_true, true_or]
        · by_cases xn : x < 0
          · obtain ⟨ν', f1, f2⟩ := ih (k - 1) x ν2 rfl (by omega) x0 x1 (by rw [e3 140 (by omega)]; exact h1)
            refine ⟨ν', ?_, fun k hk => (f2 k hk).trans (e3 k hk)⟩
            rw [gl_neg xn] at f1 ⊢
            have ex : x - 0 = x := by omega
            have ek : (k : Int) + -1 = k - 1 := by omega
            simp (disch := omega) only [e1, B225_2, in_f, B225_3, B225_4, B225_6, ex, ek, f1, xcI_some, xcV_some, if_pos, if_neg, xg_in, wr_of, if_true, if_false, or_true, true_or]
          · obtain ⟨ν', f1, f2⟩ := ih (k - 1) (x - (chU (μ 140) (rowU (μ 140) k)).length) ν2 rfl (by omega) (by omega) (by omega) (by rw [e3 140 (by omega)]; exact h1)
            refine ⟨ν', ?_, fun k hk => (f2 k hk).trans (e3 k hk)⟩
            rw [gl_right (by omega)]
            have ek : (k : Int) + -1 = k - 1 := by omega
            simp (disch := omega) only [e1, B225_2, in_f, B225_3, B225_4, B225_5, B225_6, ek, f1, xcI_some, xcV_some, if_pos, if_neg, xg_in, wr_of, if_true, if_false, or_true, true_or]
    have ν0 : up2 ν 139 3 0 140 = μ 140 := by rw [up2_k (by omega)]; exact hν
    obtain ⟨ν', f1, f2⟩ := l (μ 140 9).toNat (μ 140 9 - 1) x (up2 ν 139 3 0) (by omega) (Nat.le_refl _) x0 x1 ν0
    refine ⟨ν', ?_, (f2 140 (by omega)).trans ν0, frM.th.tr (frM_row f2)⟩
    unfold wk
    rw [V225, B225_0, ν0]
    simp (disch := omega) only [f1, xcI_some, xcV_some, if_pos, if_neg, xg_in, wr_of, if_true, if_false, or_true, true_or]
end

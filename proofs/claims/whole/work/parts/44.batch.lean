/-! a batch: rows, units; one that goes alone -/
def nrM (m : Nat → Int) (r t : Int) : Nat → Int := up1 (up1 (up1 (up1 (up1 m 9 (r + 1)) (49104 + r).toNat 0) (49120 + r).toNat 0) (49136 + r).toNat t) (49152 + r).toNat 0
def auM (m : Nat → Int) (r n u : Int) : Nat → Int := up1 (up1 m (49168 + 8 * r + n).toNat u) (49104 + r).toNat (n + 1)
def adC0 (C : xM) (u t : Int) : xM := up2 (up2 (up2 (up2 (up2 (up2 (up2 (up2 (up2 C 47 0 0) 49 0 0) 51 0 0) 53 0 (-1)) 41 7 1) 43 0 u) 45 0 t) 41 6 1) 47 0 1
def adC (C : xM) (n u t : Int) : xM := up2 (up2 (up2 (up2 C 43 n.toNat u) 45 n.toNat t) 41 6 (n + 1)) 47 0 (n + 1)
section
variable {sc : Nat × (Nat → Int)} {C : xM} {m : Nat → Int} {ρ : Int → Int → Int}
theorem K109_0 {u t : Int} (h6 : C 41 6 = 0) (h7 : C 41 7 = 0) : EV sc 109 [vR 41, vI u, vI t] (SK, C) = some (none, (SK, adC0 C u t)) := by
  have i0 : (0 : Int).toNat = 0 := rfl
  simp (disch := omega) only [V109, B109_0, B109_1, B109_2, B109_3, B109_4, B109_5, V110, B110_0, B110_1, B110_2, B110_3, B110_4, h6, h7, S_42, S_44, S_46, S_48, S_50, S_52, st_in, i0, up2_ne, up2_eq, Int.zero_add, xcI_some, xcV_some, if_pos, if_neg, xg_in, wr_of, if_true, if_false, or_true, true_or]
  rfl
theorem K109_s {u t n : Int} (h6 : C 41 6 = n) (n0 : 0 ≤ n) (n8 : n < 8) (h7 : C 41 7 = 1) : EV sc 109 [vR 41, vI u, vI t] (SK, C) = some (none, (SK, adC C n u t)) := by
  have i0 : (0 : Int).toNat = 0 := rfl
  simp (disch := omega) only [V109, B109_0, B109_1, B109_2, B109_3, B109_4, B109_5, h6, h7, S_42, S_44, S_46, st_in, i0, up2_ne, up2_eq, xcI_some, xcV_some, if_pos, if_neg, xg_in, wr_of, if_true, if_false, or_true, true_or]
  rfl
theorem m212 {t r : Int} (hr : m 9 = r) (r0 : 0 ≤ r) (r1 : r < 16) : rS m (fun ν => EV sc 212 [vR 139, vI t] (SK, ν)) (fun ν => some (none, (SK, ν))) (nrM m r t) := fun ν hν => by
  refine ⟨up2 (up2 (up2 (up2 (up2 ν 140 9 (r + 1)) 140 (49104 + r).toNat 0) 140 (49120 + r).toNat 0) 140 (49136 + r).toNat t) 140 (49152 + r).toNat 0, ?_, ?_, (frR.up rfl).tr ((frR.up rfl).tr ((frR.up rfl).tr ((frR.up rfl).tr (frR.up rfl))))⟩
  · show EV sc 212 [vR 139, vI t] (SK, ν) = _
    simp (disch := omega) only [V212, B212_0, B212_1, B212_2, B212_3, B212_4, B212_5, hν, hr, xcI_some, xcV_some, if_pos, if_neg, xg_in, wr_of, if_true, if_false, or_true, true_or]
  · simp only [up2_row, hν]
    rfl
theorem m213 {u r n : Int} (hr : m 9 = r + 1) (r0 : 0 ≤ r) (r1 : r < 16) (hn : m (49104 + r).toNat = n) (n0 : 0 ≤ n) (n8 : n < 8) : rS m (fun ν => EV sc 213 [vR 139, vI u] (SK, ν)) (fun ν => some (none, (SK, ν))) (auM m r n u) := fun ν hν => by
  refine ⟨up2 (up2 ν 140 (49168 + 8 * r + n).toNat u) 140 (49104 + r).toNat (n + 1), ?_, ?_, (frR.up rfl).tr (frR.up rfl)⟩
  · show EV sc 213 [vR 139, vI u] (SK, ν) = _
    have er : r + 1 - 1 = r := by omega
    simp (disch := omega) only [V213, B213_0, hν, hr, er, hn, up2_ne, xcI_some, xcV_some, if_pos, if_neg, xg_in, wr_of, if_true, if_false, or_true, true_or]
  · simp only [up2_row, hν]
    rfl
/-- the batch that is being made -/
def gP (C : xM) (w : Nat → Int) (n : Nat) (k : Int) : Prop := (w 9 = 1 ∧ w 49104 = n ∧ w 49120 = 0 ∧ w 49136 = -1 ∧ w 49152 = 0 ∧ n ≤ 8) ∧ (C 41 6 = n ∧ C 41 7 = if n = 0 then 0 else 1) ∧ (n ≠ 0 → C 47 0 = n ∧ C 49 0 = 0 ∧ C 51 0 = 0 ∧ C 53 0 = -1) ∧
  (∀ i : Nat, i < n → C 43 i = w (49168 + i) ∧ C 45 i = w (41964 + w (49168 + i)).toNat ∧ 0 ≤ w (49168 + i) ∧ w (49168 + i) < w 7 ∧ w (41724 + w (49168 + i)).toNat = 1 ∧ ∃ j : Int, 0 ≤ j ∧ j < k ∧ j < w 8 ∧ lnA w j = w (49168 + i)) ∧ (chU w (rowU w 0)).Nodup
theorem gP_yP {C : xM} {w : Nat → Int} {n : Nat} {k : Int} (h : gP C w n k) (hn : n ≠ 0) : yP C w := by
  obtain ⟨⟨g1, g2, g3, g4, g5, g6⟩, ⟨c1, c2⟩, c3, u, nd⟩ := h
  obtain ⟨c4, c5, c6, c7⟩ := c3 hn
  rw [if_neg hn] at c2
  have e1 : allU w (w 9).toNat = rowU w 0 := by
    rw [g1]
    show rowU w 0 ++ allU w 0 = rowU w 0
    exact List.append_nil _
  have el : (rowU w 0).length = n := by rw [rowU_len, Nat.add_zero, g2]; omega
  unfold yP
  rw [e1, el, g1]
  refine ⟨⟨by omega, by omega, c2⟩, c1, g6, fun r r0 r1 => ?_, fun i x hi => ?_, nd⟩
  · have er : r = 0 := by omega
    subst er
    rw [show (49104 + (0 : Int)).toNat = 49104 from rfl, show (49120 + (0 : Int)).toNat = 49120 from rfl, show (49152 + (0 : Int)).toNat = 49152 from rfl, show (49136 + (0 : Int)).toNat = 49136 from rfl, show (0 : Int).toNat = 0 from rfl, g2, g3, g4, g5, c4, c5, c6, c7]
    exact ⟨rfl, by omega, rfl, rfl, rfl, Or.inl rfl⟩
  · have hil := (List.getElem?_eq_some_iff.mp hi).1
    rw [el] at hil
    have q : (rowU w 0)[i]? = some (w (49168 + i)) := by
      unfold rowU
      rw [List.getElem?_map, List.getElem?_range (by rw [Nat.add_zero, g2]; omega)]
      simp
    rw [q] at hi
    have e3 := Option.some.inj hi
    have z := u i hil
    rw [e3] at z
    exact ⟨z.1, z.2.1, z.2.2.1, z.2.2.2.1, by omega⟩
theorem gP_0 {C : xM} {k : Int} (h6 : C 41 6 = 0) (h7 : C 41 7 = 0) : gP C (nrM m 0 (-1)) 0 k := by
  have e0 : (49104 + (0 : Int)).toNat = 49104 := rfl
  have e1 : (49120 + (0 : Int)).toNat = 49120 := rfl
  have e2 : (49136 + (0 : Int)).toNat = 49136 := rfl
  have e3 : (49152 + (0 : Int)).toNat = 49152 := rfl
  have x1 : nrM m 0 (-1) 49104 = 0 := by
    unfold nrM
    rw [e0, e1, e2, e3]
    simp (disch := omega) only [up1_ne, up1_eq]
  refine ⟨⟨?_, ?_, ?_, ?_, ?_, by omega⟩, ⟨h6, by rw [if_pos rfl]; exact h7⟩, fun h => absurd rfl h, fun i hi => by omega, ?_⟩
  · unfold nrM
    rw [e0, e1, e2, e3]
    simp (disch := omega) only [up1_ne, up1_eq, Int.zero_add]
  · rw [x1]; rfl
  · unfold nrM
    rw [e0, e1, e2, e3]
    simp (disch := omega) only [up1_ne, up1_eq]
  · unfold nrM
    rw [e0, e1, e2, e3]
    simp (disch := omega) only [up1_ne, up1_eq]
  · unfold nrM
    rw [e0, e1, e2, e3]
    simp (disch := omega) only [up1_ne, up1_eq]
  · have : rowU (nrM m 0 (-1)) 0 = [] := by
      unfold rowU
      rw [Nat.add_zero, x1]
      rfl
    rw [this]
    simp [chU]
theorem mem_chUs {c : Int} : ∀ us : List Int, c ∈ chU m us ↔ ∃ v ∈ us, c = v ∨ (m (41964 + v).toNat ≠ -1 ∧ c = m (41964 + v).toNat) := by
  intro us
  induction us with
  | nil => exact ⟨fun h => absurd h List.not_mem_nil, fun ⟨v, hv, _⟩ => absurd hv List.not_mem_nil⟩
  | cons u us ih =>
    rw [mem_chU, ih]
    constructor
    · rintro (h | h | ⟨v, hv, h⟩)
      · exact ⟨u, List.mem_cons_self, Or.inl h⟩
      · exact ⟨u, List.mem_cons_self, Or.inr h⟩
      · exact ⟨v, List.mem_cons_of_mem _ hv, h⟩
    · rintro ⟨v, hv, h⟩
      rcases List.mem_cons.mp hv with e | e
      · subst e
        exact h.elim Or.inl (fun y => Or.inr (Or.inl y))
      · exact Or.inr (Or.inr ⟨v, e, h⟩)
theorem gP_add {w : Nat → Int} {n : Nat} {k : Int} (h : gP C w n k) (hA : yA C w) (hW : yW C w) (n8 : n < 8) (k0 : 0 ≤ k) (k1 : k < w 8) (hr : rfA w k) : gP (if n = 0 then adC0 C (lnA w k) (w (41964 + lnA w k).toNat) else adC C n (lnA w k) (w (41964 + lnA w k).toNat)) (auM w 0 n (lnA w k)) (n + 1) (k + 1) := by
  obtain ⟨⟨g1, g2, g3, g4, g5, g6⟩, ⟨c1, c2⟩, c3, us, nd⟩ := h
  have h7 := hA.2.1
  have w8 := hW.2.1
  have gw := hW.2.2.2.1 k k0 k1
  have gl : 0 ≤ lnA w k ∧ lnA w k < w 7 ∧ w (41724 + lnA w k).toNat = 1 := ⟨gw.2.1, gw.2.2.1, gw.2.2.2⟩
  have gp := (hA.2.2.2 _ gl.1 gl.2.1).2.2.2
  generalize hu : lnA w k = u at *
  have e0 : (49104 + (0 : Int)).toNat = 49104 := rfl
  have eu : (49168 + 8 * (0 : Int) + (n : Int)).toNat = 49168 + n := by omega
  have a0 : auM w 0 n u 49104 = (n : Int) + 1 := by
    unfold auM
    rw [e0, up1_eq]
  have au : auM w 0 n u (49168 + n) = u := by
    unfold auM
    rw [e0, eu, up1_ne (by omega), up1_eq]
  have an : ∀ i : Nat, i ≠ 49104 → i ≠ 49168 + n → auM w 0 n u i = w i := fun i h1 h2 => by
    unfold auM
    rw [e0, eu, up1_ne h1, up1_ne h2]
  have el : ∀ j : Int, 0 ≤ j → j < w 8 → lnA (auM w 0 n u) j = lnA w j := fun j j0 j1 => an _ (by omega) (by omega)
  have hrow : rowU (auM w 0 n u) 0 = rowU w 0 ++ [u] := by
    have e9 : auM w 0 n u (49104 + 0) = (n : Int) + 1 := a0
    have e9' : w (49104 + 0) = n := g2
    unfold rowU
    rw [e9, e9', show ((n : Int) + 1).toNat = (n : Int).toNat + 1 by omega, List.range_succ, List.map_append]
    congr 1
    · exact List.map_congr_left fun i hi => by
        have := List.mem_range.mp hi
        exact an _ (by omega) (by omega)
    · simp only [List.map_cons, List.map_nil]
      rw [show 49168 + (8 * 0 + (n : Int).toNat) = 49168 + n by omega, au]
  have hmem : ∀ v ∈ rowU w 0, ∃ i : Nat, i < n ∧ w (49168 + i) = v := fun v hv => by
    obtain ⟨i, hi, e⟩ := List.mem_map.mp hv
    have h2 := List.mem_range.mp hi
    rw [Nat.add_zero, g2] at h2
    exact ⟨i, by omega, by rw [← e]; simp⟩
  have hch : chU (auM w 0 n u) (rowU w 0 ++ [u]) = chU w (rowU w 0 ++ [u]) := chU_fr _ fun v hv => by
    rcases List.mem_append.mp hv with hv | hv
    · obtain ⟨i, i1, i2⟩ := hmem v hv
      have z := us i i1
      rw [i2] at z
      exact an _ (by omega) (by omega)
    · rw [List.mem_singleton.mp hv]
      exact an _ (by omega) (by omega)
  have up : ∀ (D : xM), D 41 6 = (n : Int) + 1 → D 41 7 = 1 → D 47 0 = (n : Int) + 1 → D 49 0 = 0 → D 51 0 = 0 → D 53 0 = -1 → (∀ i : Nat, i < n → D 43 i = C 43 i ∧ D 45 i = C 45 i) → D 43 n = u → D 45 n = w (41964 + u).toNat → gP D (auM w 0 n u) (n + 1) (k + 1) := fun D d1 d2 d3 d4 d5 d6 d7 d8 d9 => by
    refine ⟨⟨by rw [an 9 (by omega) (by omega)]; exact g1, by rw [a0]; omega, by rw [an _ (by omega) (by omega)]; exact g3, by rw [an _ (by omega) (by omega)]; exact g4, by rw [an _ (by omega) (by omega)]; exact g5, by omega⟩, ⟨by rw [d1]; omega, by rw [if_neg (by omega)]; exact d2⟩, fun _ => ⟨by rw [d3]; omega, d4, d5, d6⟩, fun i hi => ?_, ?_⟩
    · by_cases ei : i = n
      · subst ei
        rw [au, an 7 (by omega) (by omega), an 8 (by omega) (by omega), an (41724 + u).toNat (by omega) (by omega), an (41964 + u).toNat (by omega) (by omega)]
        exact ⟨d8, d9, gl.1, gl.2.1, gl.2.2, k, k0, by omega, k1, by rw [el k k0 k1, hu]⟩
      · obtain ⟨z1, z2, z3, z4, z5, j, j0, j1, j2, j3⟩ := us i (by omega)
        rw [an (49168 + i) (by omega) (by omega), an 7 (by omega) (by omega), an 8 (by omega) (by omega), an (41724 + w (49168 + i)).toNat (by omega) (by omega), an (41964 + w (49168 + i)).toNat (by omega) (by omega), (d7 i (by omega)).1, (d7 i (by omega)).2]
        exact ⟨z1, z2, z3, z4, z5, j, j0, by omega, j2, by rw [el j j0 j2]; exact j3⟩
    · rw [hrow, hch, chU_app]
      refine List.nodup_append.mpr ⟨nd, ?_, fun a ha b hb hab => ?_⟩
      · by_cases e1 : w (41964 + u).toNat = -1
        · rw [chU_one e1]
          simp [chU]
        · rw [chU_two e1]
          have : u ≠ w (41964 + u).toNat := fun x => (gp.elim (fun y => absurd y e1) (fun y => y.2.2.1)) x.symm
          simp [chU, this]
      · subst hab
        obtain ⟨v, hv, hav⟩ := (mem_chUs _).mp ha
        obtain ⟨v2, hv2, hbv⟩ := (mem_chUs _).mp hb
        rw [List.mem_singleton.mp hv2] at hbv
        obtain ⟨i, i1, i2⟩ := hmem v hv
        obtain ⟨z1, z2, z3, z4, z5, j, j0, j1, j2, j3⟩ := us i i1
        rw [i2] at z3 z4 z5 j3
        have gv := (hA.2.2.2 v z3 z4).2.2.2
        have w5 := hW.2.2.2.2.1
        have vu : v ≠ u := fun x => by
          rw [x] at j3
          have := w5 j k j0 j2 k0 k1 (j3.trans hu.symm)
          omega

        have pv : w (41964 + v).toNat ≠ -1 → w (41964 + v).toNat ≠ u := fun y x => by
          have y2 := gv.elim (fun q => absurd q y) id
          rw [x] at y2
          rcases hr.2 with q | ⟨j3', q0, q1, q2⟩
          · rw [hu, y2.2.2.2] at q
            omega
          · rw [hu, y2.2.2.2] at q2
            have := w5 j3' j (by omega) q1 j0 j2 (q2.trans j3.symm)
            omega
        have pu : w (41964 + u).toNat ≠ -1 → w (41964 + u).toNat ≠ v := fun y x => by
          have y2 := gp.elim (fun q => absurd q y) id
          rw [x] at y2
          exact pv (by rw [y2.2.2.2]; omega) y2.2.2.2
        rcases hav with a1 | ⟨a1, a2⟩ <;> rcases hbv with b1 | ⟨b1, b2⟩
        · exact vu (a1.symm.trans b1)
        · exact pu b1 (b2.symm.trans a1)
        · exact pv a1 (a2.symm.trans b1)
        · have x1 := gv.elim (fun q => absurd q a1) id
          have x2 := gp.elim (fun q => absurd q b1) id
          have x3 : w (41964 + v).toNat = w (41964 + u).toNat := a2.symm.trans b2
          have x4 := x1.2.2.2
          rw [x3, x2.2.2.2] at x4
          exact vu x4.symm
  by_cases n0 : n = 0
  · subst n0
    rw [if_pos rfl]
    refine up _ ?_ ?_ ?_ ?_ ?_ ?_ (fun i hi => by omega) ?_ ?_ <;> (unfold adC0; simp (disch := omega) only [up2_ne, up2_eq]) <;> rfl
  · rw [if_neg n0]
    obtain ⟨c4, c5, c6, c7⟩ := c3 n0
    rw [if_neg n0] at c2
    have en : ((n : Int)).toNat = n := by omega
    refine up _ ?_ ?_ ?_ ?_ ?_ ?_ (fun i hi => ⟨?_, ?_⟩) ?_ ?_ <;> (unfold adC; rw [en]; simp (disch := omega) only [up2_ne, up2_eq, c2, c4, c5, c6, c7])
theorem K109g {w : Nat → Int} {n : Nat} {k u t : Int} (h : gP C w n k) (n8 : n < 8) : EV sc 109 [vR 41, vI u, vI t] (SK, C) = some (none, (SK, if n = 0 then adC0 C u t else adC C n u t)) := by
  obtain ⟨_, ⟨c1, c2⟩, _⟩ := h
  by_cases n0 : n = 0
  · subst n0
    rw [if_pos rfl]
    exact K109_0 c1 c2
  · rw [if_neg n0] at c2 ⊢
    exact K109_s c1 (by omega) (by omega) c2
theorem adC_ne {n : Nat} {u t : Int} {k i : Nat} (h : k ≠ 41 ∧ k ≠ 43 ∧ k ≠ 45 ∧ k ≠ 47 ∧ k ≠ 49 ∧ k ≠ 51 ∧ k ≠ 53) : (if n = 0 then adC0 C u t else adC C n u t) k i = C k i := by
  by_cases n0 : n = 0
  · rw [if_pos n0]
    unfold adC0
    simp (disch := omega) only [up2_ne]
  · rw [if_neg n0]
    unfold adC
    simp (disch := omega) only [up2_ne]
theorem adC_fr {n : Nat} {u t : Int} : frC C (if n = 0 then adC0 C u t else adC C n u t) := fun j hj => by
  funext i
  exact adC_ne (by omega)
/-- a batch just made: its first unit is ready, and fits on the latest state -/
def frsh (m : Nat → Int) : Prop := m 49120 = 0 ∧ rdy m (m 49168) ∧ ∀ (w : Nat → Int) (t : Int), 0 ≤ t → t < 64 → sl2 m (m 0) w t → edS m w → uft w t (m 49168)
end

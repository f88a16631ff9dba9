/-! the topmost row looked through; what is not run -/
def rwC (C : xM) (m : Nat → Int) (r : Int) : Prop := C 47 r.toNat = m (49104 + r).toNat ∧ C 49 r.toNat = m (49120 + r).toNat ∧ C 51 r.toNat = m (49152 + r).toNat ∧ C 53 r.toNat = m (49136 + r).toNat ∧ (m (49120 + r).toNat = 0 ∨ m (49120 + r).toNat = 1)
def tP (C : xM) (m : Nat → Int) (top : Int) (K L : List Int) : Prop := (m 9 = top + 1 ∧ 0 ≤ top ∧ top < 8 ∧ C 41 7 = top + 1) ∧ uP C m (K ++ L) ∧ (chU m (K ++ L)).Nodup ∧ rowU m top.toNat = K ∧ allU m top.toNat = L ∧ m (49104 + top).toNat = K.length ∧ rwC C m top ∧ ∀ r : Int, 0 ≤ r → r < top → rwC C m r ∧ 1 ≤ m (49104 + r).toNat
theorem rowU_of {m : Nat → Int} {r : Nat} {K : List Int} (h1 : m (49104 + r) = K.length) (h : ∀ (i : Nat) (u : Int), K[i]? = some u → m (49168 + (8 * r + i)) = u) : rowU m r = K := by
  refine List.ext_getElem? fun i => ?_
  by_cases hi : i < K.length
  · obtain ⟨u, hu⟩ : ∃ u, K[i]? = some u := ⟨_, List.getElem?_eq_getElem hi⟩
    rw [hu, ← h i u hu]
    unfold rowU
    rw [List.getElem?_map, List.getElem?_range (by rw [h1]; omega)]
    rfl
  · rw [List.getElem?_eq_none (by rw [rowU_len, h1]; omega), List.getElem?_eq_none (by omega)]
theorem tP_yP {C : xM} {m : Nat → Int} {top : Int} {K L : List Int} (h : tP C m top K L) (hK : K ≠ []) : yP C m ∧ wk m = K ++ L := by
  obtain ⟨⟨h1, h2, h3, h4⟩, hU, hn, hr, hL, hl, hT, hrow⟩ := h
  have e : allU m (m 9).toNat = K ++ L := by
    rw [h1, show (top + 1).toNat = top.toNat + 1 by omega, allU_s, hr, hL]
  have k1 : 1 ≤ K.length := by
    rcases K with _ | ⟨a, K⟩
    · exact absurd rfl hK
    · rw [List.length_cons]; omega
  refine ⟨?_, e⟩
  unfold yP
  rw [e]
  refine ⟨⟨by omega, by omega, by omega⟩, hU.1, hU.2.1, fun r r0 r1 => ?_, hU.2.2, hn⟩
  by_cases er : r = top
  · subst er
    exact ⟨hT.1, by omega, hT.2.1, hT.2.2.1, hT.2.2.2.1, hT.2.2.2.2⟩
  · obtain ⟨x, y⟩ := hrow r r0 (by omega)
    exact ⟨x.1, y, x.2.1, x.2.2.1, x.2.2.2.1, x.2.2.2.2⟩
section
variable {sc : Nat × (Nat → Int)} {C : xM} {m : Nat → Int} {ρ : Int → Int → Int}
theorem yP_uP (h : yP C m) : uP C m (wk m) := ⟨h.2.1, h.2.2.1, h.2.2.2.2.1⟩
theorem trim (h : yK C m) {top : Int} (ht : m 9 = top + 1) (t0 : 0 ≤ top) : ∃ (C' : xM) (m' : Nat → Int) (K : List Int), EV sc 73 [vR 1] (SK, C) = some (none, (SK, C')) ∧ rS m (fun ν => EV sc 217 [vR 139, vI top] (SK, ν)) (fun ν => some (none, (SK, ν))) m' ∧ frC C C' ∧ yQ C' m' ∧ (∃ ρ : Int → Int → Int, oB ρ m' ∧ oSl ρ m' 61) ∧ ySl C' m' 61 61 ∧ tP C' m' top K (allU m top.toNat) ∧ (∀ u ∈ K, rdy m' u) ∧
    (K ++ allU m top.toNat).Sublist (wk m) ∧ m' 10 = m 10 ∧ m' 8 = m 8 ∧ (∀ i : Nat, ¬ aW i → (i < 49104 ∨ 49296 ≤ i) → m' i = m i) ∧ (top = 0 → frsh m → K ≠ [] ∧ m' (49120 + top).toNat = 0) := by
  obtain ⟨a1, a2, a3, a4, a5, a6, a7, a8, a9, a10, a11⟩ := id h
  have hQ := yQ_of h
  have n7 : 0 ≤ m 7 ∧ m 7 ≤ 60 := ⟨a4.1, a4.2.1⟩
  have n0 : 0 ≤ m 0 ∧ m 0 ≤ 60 ∧ C 2 3 = m 0 := a6.1
  obtain ⟨ρ, ho⟩ := a9
  have ho' : oB ρ m := ho
  have n9 := a8.1
  have t8 : top < 8 := by omega
  have hl : ∀ f : Int, 0 ≤ f → f < 8 → 0 ≤ m (12 + 8 * m 0 + f).toNat ∧ m (12 + 8 * m 0 + f).toNat ≤ 24 := fun f f0 f1 => by
    have g := a6.2.2 (m 0) f n0.1 (Int.le_refl _) f0 f1
    exact ⟨g.2.1, g.2.2.1⟩
  obtain ⟨m1, r1, x1, x2⟩ := m168 (sc := sc) (m := m) (s := m 0) (t := 61) n0.1 (by omega) (by omega) (by omega) (by omega) hl
  have m1s : ∀ i : Nat, ¬ aW i → m1 i = m i := fun i hi => x1 i (aS_W (by omega) hi)
  have m1t : ∀ i : Nat, 41484 ≤ i → m1 i = m i := fun i hi => m1s i (by unfold aW; omega)
  have k14 : EV sc 14 [vR 2, vI (m 0), vI 61] (SK, C) = some (none, (SK, cpC C (m 0) 61)) := K14 n0.1 (by omega) (by omega) (by omega)
  have c1s : ∀ k i : Nat, k ≠ 3 → k ≠ 4 → cpC C (m 0) 61 k i = C k i := fun k i h1 h2 => cpC_ne (by omega) (by unfold dS; omega)
  have hQ1 : yQ (cpC C (m 0) 61) m1 := yQ_W hQ m1s (fun k i hi => cpC_ne (by omega) (dS_W (by omega) hi))
  have ho1 : oB ρ m1 := oB_W ho' (yQ_J hQ) m1s
  have hS1 : ySl (cpC C (m 0) 61) m1 61 61 := fun f f0 f1 => slE_yF (cpC_yF (a6.2.2 (m 0) f n0.1 (Int.le_refl _) f0 f1) n0.1 (by omega) f0 f1) (x2 f f0 f1) (m1s 1 (by unfold aW; omega))
  have hρ1 : oSl ρ m1 61 := fun f f0 f1 => by
    rw [slE_fi (x2 f f0 f1)]
    exact ho.1 (m 0) f n0.1 (Int.le_refl _) f0 f1
  have ewk : wk m = rowU m top.toNat ++ allU m top.toNat := by
    unfold wk
    rw [ht, show (top + 1).toNat = top.toNat + 1 by omega, allU_s]
  have rowc := a8.2.2.2.1 top t0 (by omega)
  have hR8 : m (49104 + top).toNat ≤ 8 := by
    have g := yP_r a8 (r := top.toNat) (by omega)
    rw [show 49104 + top.toNat = (49104 + top).toNat by omega] at g
    exact g.2.1
  have lenU : ((rowU m top.toNat).length : Int) = m (49104 + top).toNat := by
    rw [rowU_len, show 49104 + top.toNat = (49104 + top).toNat by omega]
    omega
  have hU0 := yP_uP a8
  rw [ewk] at hU0
  have cellU : ∀ (i : Nat) (u : Int), (rowU m top.toNat)[i]? = some u → m (49168 + 8 * top + (0 + i)).toNat = u := fun i u hu => by
    have hil := (List.getElem?_eq_some_iff.mp hu).1
    have q : (rowU m top.toNat)[i]? = some (m (49168 + (8 * top.toNat + i))) := by
      unfold rowU
      rw [rowU_len] at hil
      rw [List.getElem?_map, List.getElem?_range hil]
      rfl
    rw [q] at hu
    rw [show (49168 + 8 * top + (0 + (i : Int))).toNat = 49168 + (8 * top.toNat + i) by omega]
    exact Option.some.inj hu
  obtain ⟨C', w', K, y1, y2, y3, y4, y5, y6, y7, y8, y9, y10, y11, y12, y13, y14, y15, y16⟩ := trim_loop (sc := sc) (ρ := ρ) (L := allU m top.toNat) (D := m (49120 + top).toNat) (F := m (49152 + top).toNat) t0 t8 (rowU m top.toNat) (cpC C (m 0) 61) m1 [] 0 (m (49104 + top).toNat) hQ1 ho1 hS1 hρ1
    (uP_fr hU0 n7.2 (fun k i hk => c1s k i (by omega) (by omega)) (fun i hi => m1s i (by unfold aW; omega))) (by rw [c1s 41 7 (by omega) (by omega), n9.2.2, ht]) (by rw [c1s 47 _ (by omega) (by omega), rowc.1, ← lenU]; simp) (by omega) (Int.le_refl _) hR8 (fun i u hu => by simp at hu) (fun i u hu => by rw [m1t _ (by omega)]; exact cellU i u hu) (m1t _ (by omega))
    (fun _ => by rw [c1s 49 _ (by omega) (by omega), c1s 51 _ (by omega) (by omega)]; exact ⟨rowc.2.2.1, rowc.2.2.2.1⟩) (fun x => absurd rfl x)
  rw [List.nil_append] at y3
  have klen : K.length ≤ (rowU m top.toNat).length := y3.length_le
  have wout : ∀ i : Nat, ¬ aW i → ((i : Int) < 49168 + 8 * top ∨ 49168 + 8 * top + 8 ≤ i) → w' i = m i := fun i h1 h2 => by rw [y14 i h1 h2, m1s i h1]
  have wR : w' (49104 + top).toNat = m (49104 + top).toNat := wout _ (by unfold aW; omega) (by omega)
  have wD : w' (49120 + top).toNat = m (49120 + top).toNat := wout _ (by unfold aW; omega) (by omega)
  have wF : w' (49152 + top).toNat = m (49152 + top).toNat := wout _ (by unfold aW; omega) (by omega)
  have wT : w' (49136 + top).toNat = m (49136 + top).toNat := wout _ (by unfold aW; omega) (by omega)

  have fin : ∃ m' : Nat → Int, rS w' (fun ν => AT sc 217 6 [vR 139, vI top, vI K.length, vN, vN] [] (SK, ν)) (fun ν => some (none, (SK, ν))) m' ∧ (∀ i : Nat, ((i : Int) ≠ 49104 + top ∧ (i : Int) ≠ 49120 + top ∧ (i : Int) ≠ 49152 + top) → m' i = w' i) ∧ m' (49104 + top).toNat = K.length ∧ C' 49 top.toNat = m' (49120 + top).toNat ∧ C' 51 top.toNat = m' (49152 + top).toNat ∧ ((K.length : Int) = m (49104 + top).toNat → m' (49120 + top).toNat = m (49120 + top).toNat) ∧ ((K.length : Int) ≠ m (49104 + top).toNat → m' (49120 + top).toNat = 0) := by
    by_cases hk : (K.length : Int) < m (49104 + top).toNat
    · obtain ⟨z1, z2⟩ := y12 (by omega)
      refine ⟨up1 (up1 (up1 w' (49120 + top).toNat 0) (49152 + top).toNat 0) (49104 + top).toNat K.length, fun ν hν => ⟨up2 (up2 (up2 ν 140 (49120 + top).toNat 0) 140 (49152 + top).toNat 0) 140 (49104 + top).toNat K.length, ?_, by simp only [up2_row, hν], (frR.up rfl).tr ((frR.up rfl).tr (frR.up rfl))⟩, fun i hi => ?_, up1_eq, ?_, ?_, fun x => by omega, fun _ => ?_⟩
      · show AT sc 217 6 [vR 139, vI top, vI K.length, vN, vN] [] (SK, ν) = _
        rw [B217_6]
        simp (disch := omega) only [hν, wR, B217_7, xcI_some, xcV_some, if_pos, if_neg, xg_in, wr_of, if_true, if_false, or_true, true_or]
      · rw [up1_ne (by omega), up1_ne (by omega), up1_ne (by omega)]
      · rw [z1]
        simp (disch := omega) only [up1_ne, up1_eq]
      · rw [z2]
        simp (disch := omega) only [up1_ne, up1_eq]
      · simp (disch := omega) only [up1_ne, up1_eq]
    · have hk2 : (K.length : Int) = m (49104 + top).toNat := by omega
      obtain ⟨z1, z2⟩ := y11 hk2
      refine ⟨w', .rf fun ν hν => ?_, fun _ _ => rfl, by rw [wR, hk2], by rw [z1, wD], by rw [z2, wF], fun _ => wD, fun x => absurd hk2 x⟩
      rw [B217_6]
      simp (disch := omega) only [hν, wR, B217_7, xcI_some, xcV_some, if_pos, if_neg, xg_in, wr_of, if_true, if_false, or_true, true_or]
  obtain ⟨m', r3, f1, f2, f3, f4, f5, f6⟩ := fin
  have m'out : ∀ i : Nat, ¬ aW i → (i < 49104 ∨ 49296 ≤ i) → m' i = m i := fun i h1 h2 => by rw [f1 i (by omega), wout i h1 (by omega)]
  have m'9 : m' 9 = top + 1 := by rw [m'out 9 (by unfold aW; omega) (by omega), ht]
  have m'w : ∀ i : Nat, i < 49104 ∨ 49296 ≤ i → m' i = w' i := fun i hi => f1 i (by omega)
  have hQ' : yQ C' m' := yQ_fr y4 (fun i hi => m'w i (by omega)) (fun _ _ _ => rfl)
  have s3 : ∀ f : Int, 0 ≤ f → f < 8 → slE w' m' 61 61 f := fun f f0 f1' => by
    have g := (y6 f f0 f1').2.2.1
    exact ⟨m'w _ (by omega), fun i i0 i1 => ⟨m'w _ (by omega), m'w _ (by omega)⟩⟩
  have hS' : ySl C' m' 61 61 := fun f f0 f1' => slE_yF (y6 f f0 f1') (s3 f f0 f1') (m'w 1 (by omega))
  have hρ' : oSl ρ m' 61 := fun f f0 f1' => by
    rw [slE_fi (s3 f f0 f1')]
    exact y7 f f0 f1'
  have ho2 : oB ρ m' := oB_fr y5 (yQ_J y4) (fun i hi => m'w i (by omega))
  have w7 : w' 7 = m 7 := wout 7 (by unfold aW; omega) (by omega)
  have hU' : uP C' m' (K ++ allU m top.toNat) := uP_fr y8 (by omega) (fun _ _ _ => rfl) (fun i hi => m'w i (by omega))
  have rK : rowU m' top.toNat = K := rowU_of (by rw [show 49104 + top.toNat = (49104 + top).toNat by omega]; exact f2) (fun i u hu => by
    have hil := (List.getElem?_eq_some_iff.mp hu).1
    have z := (y10 i u hu).1
    rw [show 49168 + (8 * top.toNat + i) = (49168 + 8 * top + i).toNat by omega, f1 _ (by omega)]
    exact z)
  have rL : allU m' top.toNat = allU m top.toNat := allU_fr _ fun r hr => by
    have g := (yP_r a8 (r := r) (by omega)).2.1
    refine ⟨?_, fun k hk => ?_⟩
    · rw [f1 _ (by omega), wout _ (by unfold aW; omega) (by omega)]
    · rw [f1 _ (by omega), wout _ (by unfold aW; omega) (by omega)]
  have lenL : ∀ v ∈ K ++ allU m top.toNat, 0 ≤ v ∧ v < m 7 := fun v hv => by
    obtain ⟨i, hi⟩ := List.getElem?_of_mem hv
    have g := hU'.2.2 i v hi
    rw [m'out 7 (by unfold aW; omega) (by omega)] at g
    exact ⟨g.2.2.1, g.2.2.2.1⟩
  have sub : (K ++ allU m top.toNat).Sublist (wk m) := by
    rw [ewk]
    exact List.Sublist.append_right y3 _
  have hnd : (chU m' (K ++ allU m top.toNat)).Nodup := by
    rw [chU_fr (m := m) _ (fun v hv => by have := lenL v hv; exact m'out _ (by unfold aW; omega) (by omega))]
    have nd := a8.2.2.2.2.2
    exact List.Nodup.sublist (chU_sub sub) nd
  have rw0 : ∀ r : Int, 0 ≤ r → r < top → rwC C' m' r ∧ 1 ≤ m' (49104 + r).toNat := fun r r0 r1' => by
    have g := a8.2.2.2.1 r r0 (by omega)
    have z : ∀ b : Int, (b = 49104 ∨ b = 49120 ∨ b = 49152 ∨ b = 49136) → m' (b + r).toNat = m (b + r).toNat := fun b hb => by
      rw [f1 _ (by omega), wout _ (by unfold aW; omega) (by omega)]
    have zc : ∀ k : Nat, (k = 47 ∨ k = 49 ∨ k = 51 ∨ k = 53) → C' k r.toNat = C k r.toNat := fun k hk => by
      rw [y13 k _ (by omega), c1s k _ (by omega) (by omega)]
    unfold rwC
    rw [z 49104 (by omega), z 49120 (by omega), z 49152 (by omega), z 49136 (by omega), zc 47 (by omega), zc 49 (by omega), zc 51 (by omega), zc 53 (by omega)]
    exact ⟨⟨g.1, g.2.2.1, g.2.2.2.1, g.2.2.2.2.1, g.2.2.2.2.2⟩, g.2.1⟩
  have rwt : rwC C' m' top := by
    refine ⟨by rw [y9, f2], f3, f4, ?_, ?_⟩
    · rw [f1 _ (by omega), wT, y13 53 _ (by omega), c1s 53 _ (by omega) (by omega)]
      exact rowc.2.2.2.2.1
    · by_cases x : (K.length : Int) = m (49104 + top).toNat
      · rw [f5 x]; exact rowc.2.2.2.2.2
      · rw [f6 x]; exact Or.inl rfl
  have frc : frC C C' := fun j hj => by
    funext i
    rw [y13 j i (by omega), c1s j i (by omega) (by omega)]
  refine ⟨C', m', K, ?_, fun ν hν => ?_, frc, hQ', ⟨ρ, ho2, hρ'⟩, hS', ⟨⟨m'9, t0, t8, by rw [y13 41 7 (by omega), c1s 41 7 (by omega) (by omega), n9.2.2, ht]⟩, hU', hnd, rK, rL, f2, rwt, rw0⟩, fun u hu => ?_, sub, m'out 10 (by unfold aW; omega) (by omega), m'out 8 (by unfold aW; omega) (by omega), m'out, fun hz hf => ?_⟩
  · have e9 : cpC C (m 0) 61 41 7 = top + 1 := by rw [c1s 41 7 (by omega) (by omega), n9.2.2, ht]
    have e47 : cpC C (m 0) 61 47 top.toNat = m (49104 + top).toNat := by rw [c1s 47 _ (by omega) (by omega)]; exact rowc.1
    have k101 : EV sc 101 [vR 41] (SK, cpC C (m 0) 61) = some (some (vI (m (49104 + top).toNat)), (SK, cpC C (m 0) 61)) := by
      have et : top + 1 - 1 = top := by omega
      simp (disch := omega) only [V101, B101_0, B101_1, B101_2, B101_3, e9, et, G_46, gt_in, e47, xcI_some, xcV_some, if_pos, if_neg, xg_in, wr_of, if_true, if_false, or_true, true_or]
    have y1' : AT sc 73 4 [vR 1, vI (m (49104 + top).toNat), vI 0, vI 0, vN] [] (SK, cpC C (m 0) 61) = some (none, (SK, C')) := y1
    simp (disch := omega) only [V73, B73_0, B73_1, B73_2, B73_3, V1, B1_0, n0.2.2, k14, k101, y1', xcI_some, xcV_some, if_pos, if_neg, xg_in, wr_of, if_true, if_false, or_true, true_or]
  · obtain ⟨ν1, v1, v2, v3⟩ := r1 ν hν
    obtain ⟨ν2, v4, v5, v6⟩ := y2 ν1 v2
    obtain ⟨ν3, v7, v8, v9⟩ := r3 ν2 v5
    have v1' : EV sc 168 [vR 139, vI (m 0), vI 61] (SK, ν) = some (none, (SK, ν1)) := v1
    have v4' : AT sc 217 2 [vR 139, vI top, vI 0, vI 0, vN] [] (SK, ν1) = AT sc 217 6 [vR 139, vI top, vI K.length, vN, vN] [] (SK, ν2) := v4
    have v7' : AT sc 217 6 [vR 139, vI top, vI K.length, vN, vN] [] (SK, ν2) = some (none, (SK, ν3)) := v7
    refine ⟨ν3, ?_, v8, v3.tr (v6.tr v9)⟩
    show EV sc 217 [vR 139, vI top] (SK, ν) = some (none, (SK, ν3))
    simp (disch := omega) only [V217, B217_0, hν, v1', B217_1, v4', v7', xcI_some, xcV_some, if_pos, if_neg, xg_in, wr_of, if_true, if_false, or_true, true_or]
  · obtain ⟨i, hi⟩ := List.getElem?_of_mem hu
    have g := (y10 i u hi).2
    have lv := lenL u (List.mem_append_left _ hu)
    exact (rdy_fr y4.2.2.2.1 lv.1 (by omega) (fun i hi => m'w i (by omega))).mpr g
  · subst hz
    obtain ⟨g1, g2, g3⟩ := hf
    have e168 : (49168 + 8 * (0 : Int) + (0 + ((0 : Nat) : Int))).toNat = 49168 := rfl
    have k1 : 1 ≤ m (49104 + (0 : Int)).toNat := rowc.2.1
    obtain ⟨u, l, hul⟩ : ∃ u l, rowU m (0 : Int).toNat = u :: l := by
      rcases hh : rowU m (0 : Int).toNat with _ | ⟨u, l⟩
      · rw [hh, List.length_nil] at lenU
        omega
      · exact ⟨u, l, rfl⟩
    have eu := cellU 0 u (by rw [hul]; rfl)
    rw [e168] at eu
    rw [eu] at g2 g3
    have gu := hU0.2.2 0 u (by rw [hul]; rfl)
    have ne := y16 u l rfl hul ((rdy_fr a4 gu.2.2.1 gu.2.2.2.1 (fun i hi => m1t i (by omega))).mpr g2) (g3 m1 61 (by omega) (by omega) x2 (fun i hi => m1t i (by omega)))
    refine ⟨ne, ?_⟩
    by_cases x : (K.length : Int) = m (49104 + (0 : Int)).toNat
    · rw [f5 x]
      exact g1
    · exact f6 x
end

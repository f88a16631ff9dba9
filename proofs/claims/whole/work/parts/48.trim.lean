/-! work: the topmost row looked through -/
/-- the units of work, as the class has them -/
def uP (C : xM) (m : Nat → Int) (us : List Int) : Prop := C 41 6 = us.length ∧ us.length ≤ 8 ∧ ∀ (i : Nat) (u : Int), us[i]? = some u → C 43 i = u ∧ C 45 i = m (41964 + u).toNat ∧ 0 ≤ u ∧ u < m 7 ∧ m (41724 + u).toNat ≠ 0
theorem uP_fr {C C' : xM} {m m' : Nat → Int} {us : List Int} (h : uP C m us) (h7 : m 7 ≤ 60) (hC : ∀ k i : Nat, (k = 41 ∧ i = 6) ∨ ((k = 43 ∨ k = 45) ∧ i < 8) → C' k i = C k i) (e : ∀ i : Nat, i = 7 ∨ (41724 ≤ i ∧ i < 41784) ∨ (41964 ≤ i ∧ i < 42024) → m' i = m i) : uP C' m' us := by
  obtain ⟨h1, h2, h3⟩ := h
  refine ⟨by rw [hC 41 6 (by omega)]; exact h1, h2, fun i u hi => ?_⟩
  have hil := (List.getElem?_eq_some_iff.mp hi).1
  obtain ⟨g1, g2, g3, g4, g5⟩ := h3 i u hi
  rw [hC 43 i (by omega), hC 45 i (by omega), e 7 (by omega), e (41964 + u).toNat (by omega), e (41724 + u).toNat (by omega)]
  exact ⟨g1, g2, g3, g4, g5⟩
theorem chU_sub {m : Nat → Int} {us vs : List Int} (h : us.Sublist vs) : (chU m us).Sublist (chU m vs) := by
  induction h with
  | slnil => exact List.Sublist.slnil
  | cons a h ih =>
    by_cases e : m (41964 + a).toNat = -1
    · rw [chU_one e]; exact List.Sublist.cons _ ih
    · rw [chU_two e]; exact List.Sublist.cons _ (List.Sublist.cons _ ih)
  | cons_cons a h ih =>
    by_cases e : m (41964 + a).toNat = -1
    · rw [chU_one e, chU_one e]; exact List.Sublist.cons_cons _ ih
    · rw [chU_two e, chU_two e]; exact List.Sublist.cons_cons _ (List.Sublist.cons_cons _ ih)
def drC (C : xM) (s N top T : Int) : xM := up2 (up2 (up2 (up2 (cp2 (cp2 C 43 (s + 1).toNat 43 s.toNat (N - s - 1).toNat) 45 (s + 1).toNat 45 s.toNat (N - s - 1).toNat) 41 6 (N - 1)) 47 top.toNat (T - 1)) 49 top.toNat 0) 51 top.toNat 0
section
variable {sc : Nat × (Nat → Int)} {C : xM} {m : Nat → Int} {ρ : Int → Int → Int}
theorem K111 {s N top T : Int} (h7 : C 41 7 = top + 1) (t0 : 0 ≤ top) (t8 : top < 8) (hT : C 47 top.toNat = T) (hN : C 41 6 = N) (N8 : N ≤ 8) (s0 : 0 ≤ s) (sT : s < T) (TN : T ≤ N) : EV sc 111 [vR 41, vI s] (SK, C) = some (none, (SK, drC C s N top T)) := by
  have m1 := M_42 (sc := sc) (μ := C) (f := s + 1) (t := s) (l := N - s - 1) (by omega) (by omega) (by omega) (by omega) (by omega)
  have m2 := M_44 (sc := sc) (μ := cp2 C 43 (s + 1).toNat 43 s.toNat (N - s - 1).toNat) (f := s + 1) (t := s) (l := N - s - 1) (by omega) (by omega) (by omega) (by omega) (by omega)
  have e1 : top + 1 - 1 = top := by omega
  simp (disch := omega) only [V111, B111_0, B111_1, B111_2, B111_3, B111_4, B111_5, B111_6, B111_7, B111_8, V101, B101_0, B101_1, B101_2, B101_3, V112, B112_0, B112_1, B112_2, h7, e1, G_46, gt_in, hT, isIn_t, hN, m1, m2, cp2_out, S_46, S_48, S_50, st_in, up2_ne, xcI_some, xcV_some, if_pos, if_neg, xg_in, wr_of, if_true, if_false, or_true, true_or]
  rfl
theorem uP_drop {us : List Int} {s : Nat} {top T : Int} (h : uP C m us) (hs : s < us.length) (t0 : 0 ≤ top) : uP (drC C s us.length top T) m (us.eraseIdx s) := by
  obtain ⟨h1, h2, h3⟩ := h
  have el : (us.eraseIdx s).length = us.length - 1 := List.length_eraseIdx_of_lt hs
  refine ⟨?_, by omega, fun i u hi => ?_⟩
  · rw [el]
    unfold drC
    simp (disch := omega) only [up2_ne, up2_eq]
    omega
  · have hil := (List.getElem?_eq_some_iff.mp hi).1
    rw [el] at hil
    by_cases his : i < s
    · rw [List.getElem?_eraseIdx_of_lt his] at hi
      have g := h3 i u hi
      unfold drC
      simp (disch := omega) only [up2_ne, cp2_out]
      exact g
    · rw [List.getElem?_eraseIdx_of_ge (by omega)] at hi
      have g := h3 (i + 1) u hi
      have c43 : drC C s us.length top T 43 i = C 43 (i + 1) := by
        unfold drC
        rw [up2_ne (by omega), up2_ne (by omega), up2_ne (by omega), up2_ne (by omega), cp2_out (by omega), cp2_in rfl (by omega) (by omega), show ((s : Int) + 1).toNat + (i - ((s : Int)).toNat) = i + 1 by omega]
      have c45 : drC C s us.length top T 45 i = C 45 (i + 1) := by
        unfold drC
        rw [up2_ne (by omega), up2_ne (by omega), up2_ne (by omega), up2_ne (by omega), cp2_in rfl (by omega) (by omega), cp2_out (by omega), show ((s : Int) + 1).toNat + (i - ((s : Int)).toNat) = i + 1 by omega]
      rw [c43, c45]
      exact g
theorem drC_ne {s N top T : Int} {k i : Nat} (h : (k ≠ 41 ∧ k ≠ 43 ∧ k ≠ 45) ∧ ((k ≠ 47 ∧ k ≠ 49 ∧ k ≠ 51) ∨ i ≠ top.toNat)) : drC C s N top T k i = C k i := by
  unfold drC
  simp (disch := omega) only [up2_ne, cp2_out]
theorem drC_417 {s N top T : Int} : drC C s N top T 41 7 = C 41 7 := by
  unfold drC
  simp (disch := omega) only [up2_ne, cp2_out]
/-- the rows but the topmost one's length: what looking through leaves alone -/
theorem trim_loop {top : Int} {L : List Int} {D F : Int} (t0 : 0 ≤ top) (t8 : top < 8) : ∀ (rest : List Int) (C : xM) (w : Nat → Int) (K : List Int) (k R : Int), yQ C w → oB ρ w → ySl C w 61 61 → oSl ρ w 61 → uP C w (K ++ rest ++ L) → C 41 7 = top + 1 → C 47 top.toNat = K.length + rest.length → k + rest.length = R → (K.length : Int) ≤ k → R ≤ 8 →
    (∀ (i : Nat) (u : Int), K[i]? = some u → w (49168 + 8 * top + i).toNat = u ∧ rdy w u) → (∀ (i : Nat) (u : Int), rest[i]? = some u → w (49168 + 8 * top + (k + i)).toNat = u) → w (49104 + top).toNat = R →
    ((K.length : Int) = k → C 49 top.toNat = D ∧ C 51 top.toNat = F) → ((K.length : Int) ≠ k → C 49 top.toNat = 0 ∧ C 51 top.toNat = 0) →
    ∃ (C' : xM) (w' : Nat → Int) (K' : List Int), AT sc 73 4 [vR 1, vI R, vI K.length, vI k, vN] [] (SK, C) = some (none, (SK, C')) ∧ rS w (fun ν => AT sc 217 2 [vR 139, vI top, vI K.length, vI k, vN] [] (SK, ν)) (fun ν => AT sc 217 6 [vR 139, vI top, vI K'.length, vN, vN] [] (SK, ν)) w' ∧
      K'.Sublist (K ++ rest) ∧ yQ C' w' ∧ oB ρ w' ∧ ySl C' w' 61 61 ∧ oSl ρ w' 61 ∧ uP C' w' (K' ++ L) ∧ C' 47 top.toNat = K'.length ∧ (∀ (i : Nat) (u : Int), K'[i]? = some u → w' (49168 + 8 * top + i).toNat = u ∧ rdy w' u) ∧
      ((K'.length : Int) = R → C' 49 top.toNat = D ∧ C' 51 top.toNat = F) ∧ ((K'.length : Int) ≠ R → C' 49 top.toNat = 0 ∧ C' 51 top.toNat = 0) ∧
      (∀ k i : Nat, (k ≠ 3 ∧ k ≠ 4 ∧ k ≠ 43 ∧ k ≠ 45 ∧ (k ≠ 41 ∨ i ≠ 6) ∧ ((k ≠ 47 ∧ k ≠ 49 ∧ k ≠ 51) ∨ i ≠ top.toNat)) → C' k i = C k i) ∧ (∀ i : Nat, ¬ aW i → ((i : Int) < 49168 + 8 * top ∨ 49168 + 8 * top + 8 ≤ i) → w' i = w i) ∧
      ((K ≠ [] → K' ≠ []) ∧ (∀ u l, K = [] → rest = u :: l → rdy w u → uft w 61 u → K' ≠ [])) := by
  intro rest
  induction rest with
  | nil =>
    intro C w K k R hQ ho hS hρ hU h7 h47 hk hKk hR hKw hrw hw hD1 hD2
    rw [List.append_nil] at hU
    have ek : k = R := by simp at hk; omega
    refine ⟨C, w, K, ?_, .rf fun ν hν => ?_, by rw [List.append_nil]; exact List.Sublist.refl _, hQ, ho, hS, hρ, hU, by rw [h47]; simp, hKw, fun x => hD1 (by omega), fun x => hD2 (by omega), fun _ _ _ => rfl, fun _ _ _ => rfl, id, fun u l _ x => by simp at x⟩
    · rw [B73_4]
      simp (disch := omega) only [B73_11, xcI_some, xcV_some, if_pos, if_neg, xg_in, wr_of, if_true, if_false, or_true, true_or]
    · show AT sc 217 2 [vR 139, vI top, vI K.length, vI k, vN] [] (SK, ν) = _
      rw [B217_2]
      simp (disch := omega) only [hν, hw, xcI_some, xcV_some, if_pos, if_neg, xg_in, wr_of, if_true, if_false, or_true, true_or]
  | cons u rest ih =>
    intro C w K k R hQ ho hS hρ hU h7 h47 hk hKk hR hKw hrw hw hD1 hD2
    obtain ⟨a1, a2, a3, a4, a5, a6, a7, a9, a10, a11⟩ := id hQ
    have n7 : 0 ≤ w 7 ∧ w 7 ≤ 60 := ⟨a4.1, a4.2.1⟩
    rw [List.length_cons] at hk h47
    have hu : (K ++ u :: rest ++ L)[K.length]? = some u := by
      rw [List.append_assoc, List.getElem?_append_right (Nat.le_refl _), Nat.sub_self]
      rfl
    obtain ⟨g1, g2, g3, g4, g5⟩ := hU.2.2 K.length u hu
    have hlen : (K ++ u :: rest ++ L).length = K.length + (rest.length + 1) + L.length := by rw [List.length_append, List.length_append, List.length_cons]
    have h8 := hU.2.1
    have hwu : w (49168 + 8 * top + k).toNat = u := by
      have := hrw 0 u rfl
      rw [show k + ((0 : Nat) : Int) = k by omega] at this
      exact this
    have k65 := K65 (sc := sc) a4 g3 g4
    have m205u := fun ν : xM => fun hν : ν 140 = w => m205 (sc := sc) hν a4 g3 g4
    have en : ((K.length : Int)).toNat = K.length := by omega
    have k100 : EV sc 100 [vR 41, vI K.length] (SK, C) = some (some (vI u), (SK, C)) := by
      simp (disch := omega) only [V100, B100_0, B100_1, G_42, gt_in, en, g1, xcI_some, xcV_some, if_pos, if_neg, xg_in, wr_of, if_true, if_false, or_true, true_or]
    have hrest : ∀ (i : Nat) (v : Int), rest[i]? = some v → w (49168 + 8 * top + (k + 1 + i)).toNat = v := fun i v hv => by
      have := hrw (i + 1) v (by rw [List.getElem?_cons_succ]; exact hv)
      rw [show k + ((i + 1 : Nat) : Int) = k + 1 + i by omega] at this
      exact this

    have leave : ∀ (C2 : xM) (w2 : Nat → Int), yQ C2 w2 → oB ρ w2 → ySl C2 w2 61 61 → oSl ρ w2 61 → (∀ k i : Nat, k ≠ 3 → k ≠ 4 → C2 k i = C k i) → (∀ i : Nat, ¬ aW i → w2 i = w i) → ∃ (C' : xM) (w' : Nat → Int) (K' : List Int), AT sc 73 9 [vR 1, vI R, vI K.length, vI k, vN] [] (SK, C2) = some (none, (SK, C')) ∧ rS w2 (fun ν => AT sc 217 2 [vR 139, vI top, vI K.length, vI (k + 1), vN] [] (SK, ν)) (fun ν => AT sc 217 6 [vR 139, vI top, vI K'.length, vN, vN] [] (SK, ν)) w' ∧
        K'.Sublist (K ++ u :: rest) ∧ yQ C' w' ∧ oB ρ w' ∧ ySl C' w' 61 61 ∧ oSl ρ w' 61 ∧ uP C' w' (K' ++ L) ∧ C' 47 top.toNat = K'.length ∧ (∀ (i : Nat) (u : Int), K'[i]? = some u → w' (49168 + 8 * top + i).toNat = u ∧ rdy w' u) ∧
        ((K'.length : Int) = R → C' 49 top.toNat = D ∧ C' 51 top.toNat = F) ∧ ((K'.length : Int) ≠ R → C' 49 top.toNat = 0 ∧ C' 51 top.toNat = 0) ∧
        (∀ k i : Nat, (k ≠ 3 ∧ k ≠ 4 ∧ k ≠ 43 ∧ k ≠ 45 ∧ (k ≠ 41 ∨ i ≠ 6) ∧ ((k ≠ 47 ∧ k ≠ 49 ∧ k ≠ 51) ∨ i ≠ top.toNat)) → C' k i = C k i) ∧ (∀ i : Nat, ¬ aW i → ((i : Int) < 49168 + 8 * top ∨ 49168 + 8 * top + 8 ≤ i) → w' i = w i) ∧ (K ≠ [] → K' ≠ []) := fun C2 w2 hQ2 ho2 hS2 hρ2 hC2 hw2 => by
      have w2s : ∀ i : Nat, 41484 ≤ i → w2 i = w i := fun i hi => hw2 i (by unfold aW; omega)
      have w27 : w2 7 = w 7 := hw2 7 (by unfold aW; omega)
      have hU2 : uP C2 w2 (K ++ u :: rest ++ L) := uP_fr hU n7.2 (fun k i hk => hC2 k i (by omega) (by omega)) (fun i hi => hw2 i (by unfold aW; omega))
      have k111 := K111 (sc := sc) (C := C2) (s := K.length) (N := (K ++ u :: rest ++ L).length) (top := top) (T := K.length + ((rest.length + 1 : Nat) : Int)) (by rw [hC2 41 7 (by omega) (by omega)]; exact h7) t0 t8 (by rw [hC2 47 _ (by omega) (by omega)]; exact h47) hU2.1 (by omega) (by omega) (by omega) (by omega)
      have hU3 := uP_drop (top := top) (T := K.length + ((rest.length + 1 : Nat) : Int)) hU2 (s := K.length) (by omega) t0
      have eer : (K ++ u :: rest ++ L).eraseIdx K.length = K ++ rest ++ L := by
        rw [List.append_assoc, List.eraseIdx_append_of_length_le (Nat.le_refl _), Nat.sub_self, List.append_assoc]
        rfl
      rw [eer] at hU3
      generalize hC3 : drC C2 K.length (K ++ u :: rest ++ L).length top (K.length + ((rest.length + 1 : Nat) : Int)) = C3 at *
      have c3 : ∀ k i : Nat, ((k ≠ 41 ∧ k ≠ 43 ∧ k ≠ 45) ∧ ((k ≠ 47 ∧ k ≠ 49 ∧ k ≠ 51) ∨ i ≠ top.toNat)) → C3 k i = C2 k i := fun k i hk => by rw [← hC3]; exact drC_ne hk
      have c3k : ∀ k : Nat, (k ≠ 41 ∧ k ≠ 43 ∧ k ≠ 45 ∧ k ≠ 47 ∧ k ≠ 49 ∧ k ≠ 51) → C3 k = C2 k := fun k hk => by
        funext i
        exact c3 k i (by omega)
      have hQ3 : yQ C3 w2 := yQ_fr hQ2 (fun _ _ => rfl) (fun k i hk => c3 k i (by omega))
      have hS3 : ySl C3 w2 61 61 := fun f f0 f1 => yF_eq (hS2 f f0 f1) (c3k 3 (by omega)) (c3k 4 (by omega)) (c3k 5 (by omega))
      have d49 : C3 49 top.toNat = 0 := by rw [← hC3]; unfold drC; simp (disch := omega) only [up2_ne, up2_eq]
      have d51 : C3 51 top.toNat = 0 := by rw [← hC3]; unfold drC; simp (disch := omega) only [up2_eq]
      have d47 : C3 47 top.toNat = K.length + rest.length := by rw [← hC3]; unfold drC; simp (disch := omega) only [up2_ne, up2_eq]; omega
      have d417 : C3 41 7 = top + 1 := by rw [← hC3, drC_417, hC2 41 7 (by omega) (by omega)]; exact h7
      have rdw : ∀ v : Int, 0 ≤ v → v < w 7 → (rdy w2 v ↔ rdy w v) := fun v v0 v1 => rdy_fr a4 v0 v1 (fun i hi => w2s i (by omega))
      obtain ⟨C', w', K', x1, x2, x3, x4, x5, x6, x7, x8, x9, x10, x11, x12, x13, x14, x15, x16⟩ := ih C3 w2 K (k + 1) R hQ3 ho2 hS3 hρ2 hU3 d417 d47 (by omega) (by omega) hR (fun i v hv => by
        obtain ⟨y1, y2⟩ := hKw i v hv
        have gv := hU.2.2 i v (by rw [List.append_assoc, List.getElem?_append_left (List.getElem?_eq_some_iff.mp hv).1]; exact hv)
        rw [w2s _ (by omega)]
        exact ⟨y1, (rdw v gv.2.2.1 gv.2.2.2.1).mpr y2⟩) (fun i v hv => by rw [w2s _ (by omega)]; exact hrest i v hv) (by rw [w2s _ (by omega)]; exact hw) (fun x => by omega) (fun _ => ⟨d49, d51⟩)
      refine ⟨C', w', K', ?_, x2, x3.trans (List.Sublist.append_left (List.sublist_cons_self _ _) _), x4, x5, x6, x7, x8, x9, x10, x11, x12, fun k i hk => ?_, fun i hi hi2 => by rw [x14 i hi hi2, hw2 i hi], x15⟩
      · simp (disch := omega) only [B73_9, k111, B73_10, x1, xcI_some, xcV_some, if_pos, if_neg, xg_in, wr_of, if_true, if_false, or_true, true_or]
      · rw [x13 k i hk]
        by_cases h41 : k = 41 ∧ i = 7
        · rw [h41.1, h41.2, d417, h7]
        · by_cases h41' : k = 41
          · rw [← hC3]
            unfold drC
            rw [up2_ne (by omega), up2_ne (by omega), up2_ne (by omega), up2_ne (by omega), cp2_out (by omega), cp2_out (by omega)]
            exact hC2 k i (by omega) (by omega)
          · rw [c3 k i (by omega), hC2 k i (by omega) (by omega)]
    by_cases hrd : rdy w u
    · rw [bI_t hrd] at k65
      obtain ⟨b, C2, w2, hb, e1, r2, z1, z2, z3, z4, z5, z6⟩ := unit_comes (sc := sc) (yQ_J hQ) ho hS hρ (by omega) (by omega) (Or.inr rfl) (by omega) (Or.inl rfl) g3 g4
      have hQ2 : yQ C2 w2 := yQ_W hQ (fun i hi => z2 i (aS_W (by omega) hi) (aS_W (by omega) hi)) (fun k i hi => z1 k i (dS_W (by omega) hi))
      have ho2 : oB ρ w2 := oB_W ho (yQ_J hQ) (fun i hi => z2 i (aS_W (by omega) hi) (aS_W (by omega) hi))
      have cc2 : ∀ k i : Nat, k ≠ 3 → k ≠ 4 → C2 k i = C k i := fun k i h1 h2 => z1 k i (by unfold dS; omega)
      have ww2 : ∀ i : Nat, ¬ aW i → w2 i = w i := fun i hi => z2 i (aS_W (by omega) hi) (aS_W (by omega) hi)
      rcases hb with hb | hb
      · subst hb
        obtain ⟨C', w', K', x1, x2, x3⟩ := leave C2 w2 hQ2 ho2 (z4 rfl) z5 cc2 ww2
        obtain ⟨y1, y2, y3, y4, y5, y6, y7, y8, y9, y10, y11, y12, y13⟩ := x3
        refine ⟨C', w', K', ?_, fun ν hν => ?_, y1, y2, y3, y4, y5, y6, y7, y8, y9, y10, y11, y12, y13, fun u' l _ hl _ hf => ?_⟩
        · rw [B73_4]
          simp (disch := omega) only [k100, B73_5, k65, B73_6, e1, B73_7, x1, xcI_some, xcV_some, if_pos, if_neg, xg_in, wr_of, if_true, if_false, or_true, true_or]
        · obtain ⟨ν1, v1, v2, v3⟩ := r2 ν hν
          obtain ⟨ν2, v4, v5, v6⟩ := x2 ν1 v2
          have v1' : EV sc 208 [vR 139, vI u, vI 61] (SK, ν) = some (some (vI 0), (SK, ν1)) := v1
          have v4' : AT sc 217 2 [vR 139, vI top, vI K.length, vI (k + 1), vN] [] (SK, ν1) = AT sc 217 6 [vR 139, vI top, vI K'.length, vN, vN] [] (SK, ν2) := v4
          have m5 := m205u ν hν
          rw [bI_t hrd] at m5
          refine ⟨ν2, ?_, v5, v3.tr v6⟩
          show AT sc 217 2 [vR 139, vI top, vI K.length, vI k, vN] [] (SK, ν) = _
          rw [B217_2]
          simp (disch := omega) only [hν, hw, hwu, m5, B217_3, v1', B217_4, B217_5, v4', xcI_some, xcV_some, if_pos, if_neg, xg_in, wr_of, if_true, if_false, or_true, true_or]
        · rw [(List.cons.inj hl).1] at z6
          exact absurd (z6.mpr hf) (by omega)
      · subst hb
        have hS2 := z3 rfl
        have k14 : EV sc 14 [vR 2, vI 62, vI 61] (SK, C2) = some (none, (SK, cpC C2 62 61)) := K14 (by omega) (by omega) (by omega) (by omega)
        have hQ3 : yQ (cpC C2 62 61) (up1 w2 (49168 + 8 * top + K.length).toNat u) := yQ_fr (yQ_W hQ2 (fun _ _ => rfl) (fun k i hi => cpC_ne (by omega) (dS_W (by omega) hi))) (fun i hi => up1_ne (by omega)) (fun _ _ _ => rfl)
        have upn : ∀ i : Nat, i ≠ (49168 + 8 * top + K.length).toNat → up1 w2 (49168 + 8 * top + K.length).toNat u i = w2 i := fun i hi => up1_ne hi
        have w2s : ∀ i : Nat, 41484 ≤ i → w2 i = w i := fun i hi => ww2 i (by unfold aW; omega)
        have ho3 : oB ρ (up1 w2 (49168 + 8 * top + K.length).toNat u) := oB_fr ho2 (yQ_J hQ2) (fun i hi => upn i (by omega))
        have s3 : ∀ f : Int, 0 ≤ f → f < 8 → slE w2 (up1 w2 (49168 + 8 * top + K.length).toNat u) 61 61 f := fun f f0 f1 => by
          have g := (hS2 f f0 f1).2.2.1
          exact ⟨upn _ (by omega), fun i i0 i1 => ⟨upn _ (by omega), upn _ (by omega)⟩⟩
        have hS3 : ySl (cpC C2 62 61) (up1 w2 (49168 + 8 * top + K.length).toNat u) 61 61 := fun f f0 f1 => slE_yF (cpC_yF (hS2 f f0 f1) (by omega) (by omega) f0 f1) (s3 f f0 f1) (upn 1 (by omega))
        have hρ3 : oSl ρ (up1 w2 (49168 + 8 * top + K.length).toNat u) 61 := fun f f0 f1 => by
          rw [slE_fi (s3 f f0 f1)]
          exact z5 f f0 f1
        have c3c : ∀ k i : Nat, k ≠ 3 → k ≠ 4 → cpC C2 62 61 k i = C k i := fun k i h1 h2 => by rw [cpC_ne (by omega) (by unfold dS; omega), cc2 k i h1 h2]
        have w3w : ∀ i : Nat, ¬ aW i → i ≠ (49168 + 8 * top + K.length).toNat → up1 w2 (49168 + 8 * top + K.length).toNat u i = w i := fun i h1 h2 => by rw [upn i h2, ww2 i h1]
        have hU3 : uP (cpC C2 62 61) (up1 w2 (49168 + 8 * top + K.length).toNat u) ((K ++ [u]) ++ rest ++ L) := by
          have := uP_fr (C' := cpC C2 62 61) (m' := up1 w2 (49168 + 8 * top + K.length).toNat u) hU n7.2 (fun k i hk => c3c k i (by omega) (by omega)) (fun i hi => w3w i (by unfold aW; omega) (by omega))
          rw [show (K ++ [u]) ++ rest ++ L = K ++ u :: rest ++ L by simp]
          exact this
        have rdw : ∀ v : Int, 0 ≤ v → v < w 7 → (rdy (up1 w2 (49168 + 8 * top + K.length).toNat u) v ↔ rdy w v) := fun v v0 v1 => rdy_fr a4 v0 v1 (fun i hi => w3w i (by unfold aW; omega) (by omega))
        have l1 : ((K ++ [u]).length : Int) = (K.length : Int) + 1 := by simp
        obtain ⟨C', w', K', x1, x2, x3, x4, x5, x6, x7, x8, x9, x10, x11, x12, x13, x14, x15, x16⟩ := ih (cpC C2 62 61) (up1 w2 (49168 + 8 * top + K.length).toNat u) (K ++ [u]) (k + 1) R hQ3 ho3 hS3 hρ3 hU3 (by rw [c3c 41 7 (by omega) (by omega)]; exact h7) (by rw [c3c 47 _ (by omega) (by omega), h47, l1]; omega) (by omega) (by rw [l1]; omega) hR (fun i v hv => by
          by_cases hi : i < K.length
          · rw [List.getElem?_append_left hi] at hv
            obtain ⟨y1, y2⟩ := hKw i v hv
            have gv := hU.2.2 i v (by rw [List.append_assoc, List.getElem?_append_left hi]; exact hv)
            rw [w3w _ (by unfold aW; omega) (by omega)]
            exact ⟨y1, (rdw v gv.2.2.1 gv.2.2.2.1).mpr y2⟩
          · have hil := (List.getElem?_eq_some_iff.mp hv).1
            rw [List.length_append, List.length_singleton] at hil
            have ei : i = K.length := by omega
            subst ei
            rw [List.getElem?_append_right (Nat.le_refl _), Nat.sub_self] at hv
            have ev : u = v := Option.some.inj hv
            rw [← ev]
            exact ⟨up1_eq, (rdw u g3 g4).mpr hrd⟩) (fun i v hv => by
          rw [w3w _ (by unfold aW; omega) (by omega)]
          exact hrest i v hv) (by rw [w3w _ (by unfold aW; omega) (by omega)]; exact hw) (fun x => by rw [c3c 49 _ (by omega) (by omega), c3c 51 _ (by omega) (by omega)]; exact hD1 (by omega)) (fun x => by rw [c3c 49 _ (by omega) (by omega), c3c 51 _ (by omega) (by omega)]; exact hD2 (by omega))
        rw [l1] at x1 x2
        refine ⟨C', w', K', ?_, fun ν hν => ?_, by rw [List.append_assoc, List.singleton_append] at x3; exact x3, x4, x5, x6, x7, x8, x9, x10, x11, x12, fun k i hk => by rw [x13 k i hk, c3c k i hk.1 hk.2.1], fun i hi hi2 => by rw [x14 i hi hi2, w3w i hi (by omega)], fun _ => x15 (by simp), fun _ _ _ _ _ _ => x15 (by simp)⟩
        · rw [B73_4]
          simp (disch := omega) only [k100, B73_5, k65, B73_6, e1, B73_7, k14, B73_8, B73_10, x1, xcI_some, xcV_some, if_pos, if_neg, xg_in, wr_of, if_true, if_false, or_true, true_or]
        · obtain ⟨ν1, v1, v2, v3⟩ := r2 ν hν
          obtain ⟨ν2, v4, v5, v6⟩ := x2 (up2 ν1 140 (49168 + 8 * top + K.length).toNat u) (by rw [up2_row, v2])
          have v1' : EV sc 208 [vR 139, vI u, vI 61] (SK, ν) = some (some (vI 1), (SK, ν1)) := v1
          have v4' : AT sc 217 2 [vR 139, vI top, vI ((K.length : Int) + 1), vI (k + 1), vN] [] (SK, up2 ν1 140 (49168 + 8 * top + K.length).toNat u) = AT sc 217 6 [vR 139, vI top, vI K'.length, vN, vN] [] (SK, ν2) := v4
          have m5 := m205u ν hν
          rw [bI_t hrd] at m5
          refine ⟨ν2, ?_, v5, v3.tr ((frR.up rfl).tr v6)⟩
          show AT sc 217 2 [vR 139, vI top, vI K.length, vI k, vN] [] (SK, ν) = _
          rw [B217_2]
          simp (disch := omega) only [hν, hw, hwu, m5, B217_3, v1', B217_4, B217_5, v4', xcI_some, xcV_some, if_pos, if_neg, xg_in, wr_of, if_true, if_false, or_true, true_or]
    · rw [bI_f hrd] at k65
      obtain ⟨C', w', K', x1, x2, x3⟩ := leave C w hQ ho hS hρ (fun _ _ _ _ => rfl) (fun _ _ => rfl)
      obtain ⟨y1, y2, y3, y4, y5, y6, y7, y8, y9, y10, y11, y12, y13⟩ := x3
      refine ⟨C', w', K', ?_, fun ν hν => ?_, y1, y2, y3, y4, y5, y6, y7, y8, y9, y10, y11, y12, y13, fun u' l _ hl hr _ => ?_⟩
      · rw [B73_4]
        simp (disch := omega) only [k100, B73_5, k65, B73_6, x1, xcI_some, xcV_some, if_pos, if_neg, xg_in, wr_of, if_true, if_false, or_true, true_or]
      · obtain ⟨ν2, v4, v5, v6⟩ := x2 ν hν
        have v4' : AT sc 217 2 [vR 139, vI top, vI K.length, vI (k + 1), vN] [] (SK, ν) = AT sc 217 6 [vR 139, vI top, vI K'.length, vN, vN] [] (SK, ν2) := v4
        have m5 := m205u ν hν
        rw [bI_f hrd] at m5
        refine ⟨ν2, ?_, v5, v6⟩
        show AT sc 217 2 [vR 139, vI top, vI K.length, vI k, vN] [] (SK, ν) = _
        rw [B217_2]
        simp (disch := omega) only [hν, hw, hwu, m5, B217_3, B217_5, v4', xcI_some, xcV_some, if_pos, if_neg, xg_in, wr_of, if_true, if_false, or_true, true_or]
      · rw [← (List.cons.inj hl).1] at hr
        exact absurd hr hrd
end

/-! a change out of the line: what stays; a unit sent back -/
theorem slE_tr {m w z : Nat → Int} {s t r f : Int} (h : slE m w s t f) (h2 : slE w z t r f) : slE m z s r f := by
  refine ⟨h2.1.trans h.1, fun i i0 i1 => ?_⟩
  have a := h.2 i i0 i1
  have b := h2.2 i i0 (by rw [h.1]; exact i1)
  exact ⟨b.1.trans a.1, b.2.trans a.2⟩
theorem slE_sy {m w : Nat → Int} {s t f : Int} (h : slE m w s t f) : slE w m t s f := by
  refine ⟨h.1.symm, fun i i0 i1 => ?_⟩
  have a := h.2 i i0 (by rw [← h.1]; exact i1)
  exact ⟨a.1.symm, a.2.symm⟩
theorem outM_ne {m : Nat → Int} {c w p : Int} {i : Nat} (h : i ≠ 8 ∧ i ≠ (41724 + c).toNat ∧ ((i : Int) < 49044 + p ∨ 49044 + m 8 - 1 ≤ i)) (p0 : 0 ≤ p) (p1 : p < m 8) : outM m c w p i = m i := by
  unfold outM
  rw [up1_ne (by omega), cp1_out (by omega), up1_ne (by omega)]
theorem outM_8 {m : Nat → Int} {c w p : Int} (p0 : 0 ≤ p) (p1 : p < m 8) (c0 : 0 ≤ c) : outM m c w p 8 = m 8 - 1 := by
  unfold outM
  rw [up1_ne (by omega), cp1_out (by omega), up1_eq]
theorem outM_ln {m : Nat → Int} {c w p j : Int} (p0 : 0 ≤ p) (p1 : p < m 8) (c0 : 0 ≤ c) (c1 : c < 60) (m8 : m 8 ≤ 60) (j0 : 0 ≤ j) (j1 : j < m 8 - 1) : lnA (outM m c w p) j = lnA m (if j < p then j else j + 1) := by
  unfold lnA
  by_cases h : j < p
  · rw [if_pos h, outM_ne (by omega) p0 p1]
  · rw [if_neg h]
    unfold outM
    rw [up1_ne (by omega), cp1_in (by omega) (by omega), up1_ne (by omega), show (49044 + p).toNat + 1 + ((49044 + j).toNat - (49044 + p).toNat) = (49044 + (j + 1)).toNat by omega]
theorem outM_w {m : Nat → Int} {c w p : Int} : outM m c w p (41724 + c).toNat = w := up1_eq
/-- ready first units, behind a removal -/
theorem rf_out {C : xM} {m : Nat → Int} (hA : yA C m) (hW : yW C m) {c w p j : Int} (c0 : 0 ≤ c) (c1 : c < m 7) (p0 : 0 ≤ p) (p1 : p < m 8) (hc : lnA m p = c) (hw : w ≠ 1) (j0 : 0 ≤ j) (j1 : j < m 8 - 1) :
    (m (41964 + lnA m (if j < p then j else j + 1)).toNat ≠ c → (rfA (outM m c w p) j ↔ rfA m (if j < p then j else j + 1))) ∧ (m (41964 + lnA m (if j < p then j else j + 1)).toNat = c → ¬ rfA (outM m c w p) j) := by
  obtain ⟨w1, w2, w3, w4, w5, w6⟩ := hW
  have h7 := hA.2.1
  have o0 : 0 ≤ (if j < p then j else j + 1) ∧ (if j < p then j else j + 1) < m 8 ∧ (if j < p then j else j + 1) ≠ p := by split <;> omega
  have hl := outM_ln (m := m) (c := c) (w := w) (p := p) (j := j) p0 p1 c0 (by omega) w2 j0 j1
  have g := w4 _ o0.1 o0.2.1
  have nd : lnA m (if j < p then j else j + 1) ≠ c := fun x => o0.2.2 (w5 _ p o0.1 o0.2.1 p0 p1 (x.trans hc.symm))
  have gd : 0 ≤ lnA m (if j < p then j else j + 1) ∧ lnA m (if j < p then j else j + 1) < m 7 := ⟨g.2.1, g.2.2.1⟩
  have gp := (hA.2.2.2 _ gd.1 gd.2).2.2.2
  have ow : ∀ d : Int, 0 ≤ d → d < m 7 → d ≠ c → outM m c w p (41724 + d).toNat = m (41724 + d).toNat := fun d d0 d1 dn => outM_ne (by omega) p0 p1
  have ok : ∀ a d : Int, (a = 41604 ∨ a = 42024 ∨ a = 41964) → 0 ≤ d → d < m 7 → outM m c w p (a + d).toNat = m (a + d).toNat := fun a d ha d0 d1 => outM_ne (by omega) p0 p1
  have fr : ∀ d : Int, 0 ≤ d → d < m 7 → d ≠ c → (fre (outM m c w p) d ↔ fre m d) := fun d d0 d1 dn => by
    unfold fre
    rw [ow d d0 d1 dn, ok 41604 d (by omega) d0 d1, ok 42024 d (by omega) d0 d1]
  unfold rfA
  rw [hl]
  generalize hd : lnA m (if j < p then j else j + 1) = d at *
  have ep : outM m c w p (41964 + d).toNat = m (41964 + d).toNat := ok 41964 d (by omega) gd.1 gd.2
  rw [ep, outM_8 p0 p1 c0]
  refine ⟨fun hp => ?_, fun hp x => ?_⟩
  · have hr : rdy (outM m c w p) d ↔ rdy m d := by
      unfold rdy
      rw [ep, fr d gd.1 gd.2 nd]
      by_cases e1 : m (41964 + d).toNat = -1
      · exact ⟨fun x => ⟨x.1, Or.inl e1⟩, fun x => ⟨x.1, Or.inl e1⟩⟩
      · rw [fr _ (by omega) (by omega) hp]
    rw [hr]
    refine and_congr Iff.rfl (or_congr Iff.rfl ⟨fun ⟨k, k0, k1, k2⟩ => ?_, fun ⟨k, k0, k1, k2⟩ => ?_⟩)
    · rw [outM_ln p0 p1 c0 (by omega) w2 (by omega) k1] at k2
      exact ⟨_, by split <;> split <;> omega, by split <;> omega, k2⟩
    · have kp : k ≠ p := fun x => by rw [x, hc] at k2; exact hp k2.symm
      by_cases h : k < p
      · have jk : j < k := by split at k0 <;> omega
        exact ⟨k, jk, by omega, by rw [outM_ln p0 p1 c0 (by omega) w2 (by omega) (by omega), if_pos h]; exact k2⟩
      · have jk : j < k - 1 := by split at k0 <;> omega
        exact ⟨k - 1, jk, by omega, by rw [outM_ln p0 p1 c0 (by omega) w2 (by omega) (by omega), if_neg (by omega), show k - 1 + 1 = k by omega]; exact k2⟩
  · have := x.1.2
    rw [ep, hp] at this
    rcases this with y | y
    · omega
    · have := y.1
      rw [outM_w] at this
      exact hw this
/-- the ready first units from a place on -/
noncomputable def rls (m : Nat → Int) : Nat → Int → List Int
  | 0, _ => []
  | n + 1, i => @ite (List Int) (rfA m i) (Classical.propDecidable _) (lnA m i :: rls m n (i + 1)) (rls m n (i + 1))
theorem rls_t {m : Nat → Int} {n : Nat} {i : Int} (h : rfA m i) : rls m (n + 1) i = lnA m i :: rls m n (i + 1) := by rw [rls, if_pos h]
theorem rls_f {m : Nat → Int} {n : Nat} {i : Int} (h : ¬ rfA m i) : rls m (n + 1) i = rls m n (i + 1) := by rw [rls, if_neg h]
theorem rls_sh {m w : Nat → Int} : ∀ (n : Nat) (i k : Int), (∀ t : Nat, t < n → (rfA w (i + t) ↔ rfA m (k + t)) ∧ lnA w (i + t) = lnA m (k + t)) → rls w n i = rls m n k := by
  intro n
  induction n with
  | zero => intro i k _; rfl
  | succ n ih =>
    intro i k h
    have h0 := h 0 (by omega)
    have e0 : i + ((0 : Nat) : Int) = i := by omega
    have e1 : k + ((0 : Nat) : Int) = k := by omega
    rw [e0, e1] at h0
    have ih1 := ih (i + 1) (k + 1) (fun t ht => by
      have g := h (t + 1) (by omega)
      rw [show i + ((t + 1 : Nat) : Int) = i + 1 + t by omega, show k + ((t + 1 : Nat) : Int) = k + 1 + t by omega] at g
      exact g)
    by_cases r : rfA m k
    · rw [rls_t r, rls_t (h0.1.mpr r), ih1, h0.2]
    · rw [rls_f r, rls_f (fun x => r (h0.1.mp x)), ih1]
theorem rls_rem {m w : Nat → Int} {p : Int} (hp : ¬ rfA m p) : ∀ (n : Nat) (i : Int), i ≤ p → p < i + n → (∀ j : Int, i ≤ j → j < p → (rfA w j ↔ rfA m j) ∧ lnA w j = lnA m j) → (∀ j : Int, p ≤ j → j < i + n - 1 → (rfA w j ↔ rfA m (j + 1)) ∧ lnA w j = lnA m (j + 1)) → rls w (n - 1) i = rls m n i := by
  intro n
  induction n with
  | zero => intro i h0 h1; omega
  | succ n ih =>
    intro i h0 h1 ha hb
    by_cases e : i = p
    · subst e
      rw [rls_f hp, Nat.add_sub_cancel]
      exact rls_sh n i (i + 1) fun t ht => by
        have g := hb (i + t) (by omega) (by omega)
        rw [show i + (t : Int) + 1 = i + 1 + t by omega] at g
        exact g
    · have ih1 := ih (i + 1) (by omega) (by omega) (fun j j0 j1 => ha j (by omega) j1) (fun j j0 j1 => hb j j0 (by omega))
      obtain ⟨g1, g2⟩ := ha i (Int.le_refl _) (by omega)
      obtain ⟨n', en⟩ : ∃ n', n = n' + 1 := ⟨n - 1, by omega⟩
      subst en
      rw [Nat.add_sub_cancel] at ih1 ⊢
      by_cases r : rfA m i
      · rw [rls_t r, rls_t (g1.mpr r), ih1, g2]
      · rw [rls_f r, rls_f (fun x => r (g1.mp x)), ih1]
section
variable {sc : Nat × (Nat → Int)} {C : xM} {m : Nat → Int}
/-- the tests by which a unit failed -/
def tsM (m : Nat → Int) (u p t : Int) : Nat → Int := if p = -1 then up1 m (41844 + u).toNat t else up1 (up1 m (41844 + u).toNat t) (41844 + p).toNat t
theorem outM_ts {c w p : Int} {k t : Int} (p0 : 0 ≤ p) (p1 : p < m 8) (m8 : m 8 ≤ 60) (k0 : 0 ≤ k) (k1 : k < 60) : outM (up1 m (41844 + k).toNat t) c w p = up1 (outM m c w p) (41844 + k).toNat t ∨ 60 ≤ c ∨ c < 0 := by
  by_cases hc : 0 ≤ c ∧ c < 60
  · left
    funext i
    by_cases e1 : i = (41844 + k).toNat
    · subst e1
      rw [up1_eq]
      unfold outM
      rw [up1_ne (by omega), cp1_out (by rw [up1_ne (by omega)]; omega), up1_ne (by omega), up1_eq]
    · rw [up1_ne e1]
      unfold outM
      rw [up1_ne (m := m) (by omega : (8 : Nat) ≠ (41844 + k).toNat)]
      by_cases e2 : i = (41724 + c).toNat
      · subst e2
        rw [up1_eq, up1_eq]
      · rw [up1_ne e2, up1_ne e2]
        by_cases e3 : (49044 + p).toNat ≤ i ∧ i < (49044 + p).toNat + (m 8 - 1 - p).toNat
        · rw [cp1_in e3.1 e3.2, cp1_in e3.1 e3.2, up1_ne (by omega), up1_ne (by omega), up1_ne (by omega)]
        · rw [cp1_out (by omega), cp1_out (by omega)]
          by_cases e4 : i = 8
          · subst e4
            rw [up1_eq, up1_eq]
          · rw [up1_ne e4, up1_ne e4, up1_ne e1]
  · right
    omega
theorem unit_out (h : yQ C m) {u w pu : Int} (u0 : 0 ≤ u) (u1 : u < m 7) (pu0 : 0 ≤ pu) (pu1 : pu < m 8) (hpu : lnA m pu = u) (w0 : w ≠ 0) (w1 : w ≠ 1) (hp : m (41964 + u).toNat = -1 ∨ m (41724 + m (41964 + u).toNat).toNat = 1) : ∃ (C' : xM) (m' : Nat → Int),
    EV sc 72 [vR 1, vI u, vI w] (SK, C) = some (none, (SK, C')) ∧ (∀ D : xM, (∀ k, k ≠ 16 → D k = C k) → ∃ D' : xM, EV sc 72 [vR 1, vI u, vI w] (SK, D) = some (none, (SK, D')) ∧ (∀ k, k ≠ 16 → D' k = C' k) ∧ D' 16 = D 16) ∧ frC C C' ∧ (∀ k : Nat, k ≠ 10 → k ≠ 38 → k ≠ 40 → C' k = C k) ∧ yQ C' m' ∧
    (∀ t : Int, rS m (fun ν => EV sc 210 [vR 139, vI u, vI w, vI t] (SK, ν)) (fun ν => some (none, (SK, ν))) (tsM m' u (m (41964 + u).toNat) t)) ∧ m' 8 < m 8 ∧ 0 ≤ m' 8 ∧
    (∀ i : Nat, i ≠ 8 → (i < 41724 ∨ 41784 ≤ i) → (i < 49044 ∨ 49104 ≤ i) → m' i = m i) ∧ (∀ c : Int, 0 ≤ c → c < m 7 → c ≠ u → c ≠ m (41964 + u).toNat → m' (41724 + c).toNat = m (41724 + c).toNat) ∧ m' (41724 + u).toNat = w ∧ (m (41964 + u).toNat ≠ -1 → m' (41724 + m (41964 + u).toNat).toNat = w) ∧
    (∀ j : Int, 0 ≤ j → j < pu → rfA m pu → lnA m' j = lnA m j) ∧ (rfA m pu → rls m' (m' 8 - pu).toNat pu = rls m (m 8 - pu - 1).toNat (pu + 1)) ∧ (rfA m pu → pu ≤ m' 8) := by
  obtain ⟨a1, a2, a3, a4, a5, a6, a7, a9, a10, a11⟩ := id h
  have n7 : 0 ≤ m 7 ∧ m 7 ≤ 60 := ⟨a4.1, a4.2.1⟩
  have n8 : 0 ≤ m 8 ∧ m 8 ≤ 60 := ⟨a7.1, a7.2.1⟩
  have q34u := fun (D : xM) (hD : D 18 = C 18) => show EV sc 34 [vR 6, vI u] (SK, D) = some (some (vI (m (41964 + u).toNat)), (SK, D)) by
    rw [V34, B34_0, G_17, xcI_some, B34_1, gt_in u0 (by omega), hD, (a4.2.2.2 u u0 u1).1.2.2.2.2.2.1]
  have gp := (a4.2.2.2 u u0 u1).2.2.2
  have k64 := fun (D : xM) (hD : ∀ k, k ≠ 16 → D k = C k) => K64 (sc := sc) (μ := D) (m := m) (c := u) (w := w) (p := pu) (yW_fr a7 n7 (fun k i hk => by rw [hD k (by omega)]) (fun _ _ => rfl)) n7 u0 u1 pu0 pu1 hpu
  have hQ1 := yQ_out h (w := w) u0 u1 pu0 pu1 hpu w0 w1
  have m200u := fun ν : xM => fun hν : ν 140 = m => m200 (sc := sc) (w := w) hν a7 n7 u0 u1 pu0 pu1 hpu
  have o8 := outM_8 (m := m) (c := u) (w := w) pu0 pu1 u0
  have one := fun i : Nat => outM_ne (m := m) (c := u) (w := w) (p := pu) (i := i)
  have oCk : ∀ (D : xM) (k : Nat), k ≠ 10 → k ≠ 38 → k ≠ 40 → outC D u w pu (m 8) k = D k := fun D k h1 h2 h3 => by
    unfold outC
    rw [up2_k h2, cp2_k h3, up2_k h1]
  have oCD : ∀ (D E : xM) (n p x y : Int), (∀ k, k ≠ 16 → D k = E k) → ∀ k, k ≠ 16 → outC D x y p n k = outC E x y p n k := fun D E n p x y hDE k hk => by
    funext i
    unfold outC
    by_cases e1 : k = 38 ∧ i = 1
    · rw [e1.1, e1.2, up2_eq, up2_eq]
    · rw [up2_ne (by omega), up2_ne (by omega)]
      by_cases e2 : k = 40 ∧ p.toNat ≤ i ∧ i < p.toNat + (n - 1 - p).toNat
      · rw [cp2_in e2.1 e2.2.1 e2.2.2, cp2_in e2.1 e2.2.1 e2.2.2, up2_ne (by omega), up2_ne (by omega), hDE 40 (by omega)]
      · rw [cp2_out (by omega), cp2_out (by omega)]
        by_cases e3 : k = 10 ∧ i = x.toNat
        · rw [e3.1, e3.2, up2_eq, up2_eq]
        · rw [up2_ne (by omega), up2_ne (by omega), hDE k hk]
  have oC16 : ∀ (D : xM) (n p x y : Int), outC D x y p n 16 = D 16 := fun D n p x y => by
    unfold outC
    rw [up2_k (by omega), cp2_k (by omega), up2_k (by omega)]
  by_cases e1 : m (41964 + u).toNat = -1
  · refine ⟨outC C u w pu (m 8), outM m u w pu, ?_, fun D hD => ⟨outC D u w pu (m 8), ?_, oCD D C _ _ _ _ hD, oC16 _ _ _ _ _⟩, outC_fr, oCk C, hQ1, fun t ν hν => ?_, by omega, by omega, fun i h1 h2 h3 => one i (by omega) pu0 pu1, fun c c0 c1 h1 h2 => one _ (by omega) pu0 pu1, outM_w, fun x => absurd e1 x, fun j j0 j1 _ => ?_, fun hr => ?_, fun _ => by omega⟩
    · simp (disch := omega) only [V72, B72_0, B72_1, B72_2, B72_3, q34u C rfl, k64 C (fun _ _ => rfl), e1, xcI_some, xcV_some, if_pos, if_neg, xg_in, wr_of, if_true, if_false, or_true, true_or]
    · simp (disch := omega) only [V72, B72_0, B72_1, B72_2, B72_3, q34u D (hD 18 (by omega)), k64 D hD, e1, xcI_some, xcV_some, if_pos, if_neg, xg_in, wr_of, if_true, if_false, or_true, true_or]
    · obtain ⟨ν1, v1, v2, v3⟩ := m200u ν hν
      refine ⟨up2 ν1 140 (41844 + u).toNat t, ?_, ?_, v3.tr (.up (by omega))⟩
      · show EV sc 210 [vR 139, vI u, vI w, vI t] (SK, ν) = some (none, (SK, up2 ν1 140 (41844 + u).toNat t))
        simp (disch := omega) only [V210, B210_0, B210_1, B210_3, hν, v1, e1, xcI_some, xcV_some, if_pos, if_neg, xg_in, wr_of, if_true, if_false, or_true, true_or]
      · unfold tsM
        rw [if_pos e1, up2_row, v2]
    · rw [outM_ln pu0 pu1 u0 (by omega) n8.2 j0 (by omega), if_pos j1]
    · rw [o8, show (m 8 - 1 - pu).toNat = (m 8 - pu - 1).toNat by omega]
      refine rls_sh _ _ _ fun t ht => ?_
      have hl := outM_ln (m := m) (c := u) (w := w) (p := pu) (j := pu + t) pu0 pu1 u0 (by omega) n8.2 (by omega) (by omega)
      have hr2 := rf_out (w := w) (j := pu + t) a4 a7 u0 u1 pu0 pu1 hpu w1 (by omega) (by omega)
      rw [if_neg (by omega), show pu + (t : Int) + 1 = pu + 1 + t by omega] at hl hr2
      refine ⟨hr2.1 (fun x => ?_), hl⟩
      have g := a7.2.2.2.1 (pu + 1 + t) (by omega) (by omega)
      have gq := (a4.2.2.2 (lnA m (pu + 1 + t)) g.2.1 g.2.2.1).2.2.2
      rw [x] at gq
      rcases gq with y | y
      · omega
      · have := y.2.2.2
        rw [e1] at this
        have := g.2.1
        unfold lnA at *
        omega
  · have g5 : 0 ≤ m (41964 + u).toNat ∧ m (41964 + u).toNat < m 7 ∧ m (41964 + u).toNat ≠ u ∧ m (41964 + m (41964 + u).toNat).toNat = u := gp.elim (fun x => absurd x e1) id
    have hp1 : m (41724 + m (41964 + u).toNat).toNat = 1 := hp.elim (fun x => absurd x e1) id
    have e41 : outM m u w pu (41964 + u).toNat = m (41964 + u).toNat := one _ (by omega) pu0 pu1
    generalize hP : m (41964 + u).toNat = p at *
    have q1 : outM m u w pu (41724 + p).toNat = 1 := by rw [one _ (by omega) pu0 pu1]; exact hp1
    have n17 : outM m u w pu 7 = m 7 := one 7 (by omega) pu0 pu1
    obtain ⟨b1, b2, b3, b4, b5, b6, b7, b9, b10, b11⟩ := id hQ1
    obtain ⟨pp, pp0, pp1, hpp⟩ := b7.2.2.2.2.2 p g5.1 (by omega) q1
    have nn7 : 0 ≤ outM m u w pu 7 ∧ outM m u w pu 7 ≤ 60 := by omega
    have hpu3 : rfA m pu → pu ≤ pp := fun hr => by
      have hl := outM_ln (m := m) (c := u) (w := w) (p := pu) (j := pp) pu0 pu1 u0 (by omega) n8.2 pp0 (by omega)
      have hpp' : lnA (outM m u w pu) pp = p := hpp
      rw [hpp'] at hl
      rcases hr.2 with y | ⟨j2, y0, y1, y2⟩
      · rw [hpu, hP] at y; exact absurd y e1
      · rw [hpu, hP] at y2
        have z := a7.2.2.2.2.1 (if pp < pu then pp else pp + 1) j2 (by split <;> omega) (by split <;> omega) (by omega) y1 (hl.symm.trans y2.symm)
        split at z <;> omega
    have k64p := fun (D : xM) (hD : ∀ k, k ≠ 16 → D k = outC C u w pu (m 8) k) => K64 (sc := sc) (μ := D) (m := outM m u w pu) (c := p) (w := w) (p := pp) (yW_fr b7 nn7 (fun k i hk => by rw [hD k (by omega)]) (fun _ _ => rfl)) nn7 g5.1 (by omega) pp0 pp1 hpp
    have hQ2 := yQ_out hQ1 (w := w) g5.1 (by omega) pp0 pp1 hpp w0 w1
    have o28 := outM_8 (m := outM m u w pu) (c := p) (w := w) pp0 pp1 g5.1
    have two := fun i : Nat => outM_ne (m := outM m u w pu) (c := p) (w := w) (p := pp) (i := i)
    have oC2k : ∀ (k : Nat), k ≠ 10 → k ≠ 38 → k ≠ 40 → outC (outC C u w pu (m 8)) p w pp (outM m u w pu 8) k = C k := fun k h1 h2 h3 => by
      have : outC (outC C u w pu (m 8)) p w pp (outM m u w pu 8) k = outC C u w pu (m 8) k := by
        conv => lhs; unfold outC
        rw [up2_k h2, cp2_k h3, up2_k h1]
        rfl
      rw [this]
      exact oCk C k h1 h2 h3
    refine ⟨outC (outC C u w pu (m 8)) p w pp (outM m u w pu 8), outM (outM m u w pu) p w pp, ?_, fun D hD => ⟨outC (outC D u w pu (m 8)) p w pp (outM m u w pu 8), ?_, oCD _ _ _ _ _ _ (oCD D C _ _ _ _ hD), ?_⟩, outC_fr.tr outC_fr, oC2k, hQ2, fun t ν hν => ?_, by omega, by omega, fun i h1 h2 h3 => ?_, fun c c0 c1 h1 h2 => ?_, ?_, fun _ => outM_w, fun j j0 j1 hr => ?_, fun hr => ?_, fun hr => by have := hpu3 hr; omega⟩
    · simp (disch := omega) only [V72, B72_0, B72_1, B72_2, B72_3, q34u C rfl, k64 C (fun _ _ => rfl), k64p (outC C u w pu (m 8)) (fun _ _ => rfl), xcI_some, xcV_some, if_pos, if_neg, xg_in, wr_of, if_true, if_false, or_true, true_or]
    · simp (disch := omega) only [V72, B72_0, B72_1, B72_2, B72_3, q34u D (hD 18 (by omega)), k64 D hD, k64p (outC D u w pu (m 8)) (oCD D C _ _ _ _ hD), xcI_some, xcV_some, if_pos, if_neg, xg_in, wr_of, if_true, if_false, or_true, true_or]
    · rw [oC16, oC16]
    · obtain ⟨ν1, v1, v2, v3⟩ := m200u ν hν
      have hb7 : yW C m := a7
      have tsw : up1 (outM m u w pu) (41844 + u).toNat t 8 = outM m u w pu 8 := up1_ne (by omega)
      have bW : yW (outC C u w pu (m 8)) (up1 (outM m u w pu) (41844 + u).toNat t) := yW_fr b7 nn7 (fun _ _ _ => rfl) (fun i hi => up1_ne (by omega))
      obtain ⟨ν2, v4, v5, v6⟩ := m200 (sc := sc) (ν := up2 ν1 140 (41844 + u).toNat t) (m := up1 (outM m u w pu) (41844 + u).toNat t) (c := p) (w := w) (p := pp) (by rw [up2_row, v2]) bW (by rw [up1_ne (by omega)]; exact nn7) g5.1 (by rw [up1_ne (by omega)]; omega) pp0 (by rw [tsw]; exact pp1) (by rw [up1_ne (by omega)]; exact hpp)
      refine ⟨up2 ν2 140 (41844 + p).toNat t, ?_, ?_, v3.tr ((frR.up (by omega)).tr (v6.tr (.up (by omega))))⟩
      · show EV sc 210 [vR 139, vI u, vI w, vI t] (SK, ν) = some (none, (SK, up2 ν2 140 (41844 + p).toNat t))
        simp (disch := omega) only [V210, B210_0, B210_1, B210_2, B210_3, hν, hP, v1, v4, xcI_some, xcV_some, if_pos, if_neg, xg_in, wr_of, if_true, if_false, or_true, true_or]
      · unfold tsM
        rw [if_neg e1, up2_row, v5]
        rcases outM_ts (m := outM m u w pu) (c := p) (w := w) (p := pp) (k := u) (t := t) pp0 pp1 (by omega) u0 (by omega) with y | y
        · rw [y]
        · omega
    · rw [two i (by omega) pp0 pp1, one i (by omega) pu0 pu1]
    · rw [two _ (by omega) pp0 pp1, one _ (by omega) pu0 pu1]
    · rw [two _ (by omega) pp0 pp1, outM_w]
    · have hpu2 := hpu3 hr
      rw [outM_ln pp0 pp1 g5.1 (by omega) (by omega) j0 (by omega), if_pos (by omega), outM_ln pu0 pu1 u0 (by omega) n8.2 j0 (by omega), if_pos j1]
    · have hl := outM_ln (m := m) (c := u) (w := w) (p := pu) (j := pp) pu0 pu1 u0 (by omega) n8.2 pp0 (by omega)
      have hpp' : lnA (outM m u w pu) pp = p := hpp
      rw [hpp'] at hl
      have hpu2 := hpu3 hr
      have s1 : rls (outM m u w pu) (m 8 - pu - 1).toNat pu = rls m (m 8 - pu - 1).toNat (pu + 1) := by
        refine rls_sh _ _ _ fun t ht => ?_
        have hl2 := outM_ln (m := m) (c := u) (w := w) (p := pu) (j := pu + t) pu0 pu1 u0 (by omega) n8.2 (by omega) (by omega)
        have hr2 := rf_out (w := w) (j := pu + t) a4 a7 u0 u1 pu0 pu1 hpu w1 (by omega) (by omega)
        rw [if_neg (by omega), show pu + (t : Int) + 1 = pu + 1 + t by omega] at hl2 hr2
        refine ⟨?_, hl2⟩
        by_cases z : m (41964 + lnA m (pu + 1 + t)).toNat = u
        · refine ⟨fun x => absurd x (hr2.2 z), fun x => ?_⟩
          rcases x.2 with y | ⟨j2, y0, y1, y2⟩
          · omega
          · rw [z] at y2
            have := a7.2.2.2.2.1 j2 pu (by omega) y1 pu0 pu1 (y2.trans hpu.symm)
            omega
        · exact hr2.1 z
      have np : ¬ rfA (outM m u w pu) pp := fun x => by
        have x1 := x.1.2
        rw [hpp', one _ (by omega) pu0 pu1, g5.2.2.2] at x1
        rcases x1 with y | y
        · omega
        · have y1 := y.1
          rw [outM_w] at y1
          exact w1 y1
      have hr3 := fun j => rf_out (C := outC C u w pu (m 8)) (m := outM m u w pu) (c := p) (w := w) (p := pp) (j := j) b4 b7 g5.1 (by omega) pp0 pp1 hpp w1
      have hl3 := fun j => outM_ln (m := outM m u w pu) (c := p) (w := w) (p := pp) (j := j) pp0 pp1 g5.1 (by omega) (by omega)
      have npart : ∀ j : Int, 0 ≤ j → j < m 8 - 1 → outM m u w pu (41964 + lnA (outM m u w pu) j).toNat ≠ p := fun j j0 j1 x => by
        have g := b7.2.2.2.1 j j0 (by omega)
        have gq := (b4.2.2.2 (lnA (outM m u w pu) j) g.2.1 g.2.2.1).2.2.2
        rw [x] at gq
        rcases gq with y | y
        · omega
        · have y2 := y.2.2.2
          rw [one _ (by omega) pu0 pu1, g5.2.2.2] at y2
          have g4 := g.2.2.2
          rw [show (outM m u w pu (49044 + j).toNat) = lnA (outM m u w pu) j from rfl, ← y2, outM_w] at g4
          exact w1 g4
      have s2 := rls_rem (m := outM m u w pu) (w := outM (outM m u w pu) p w pp) np (m 8 - pu - 1).toNat pu hpu2 (by omega) (fun j j0 j1 => by
        have x := hr3 j (by omega) (by omega)
        have y := hl3 j (by omega) (by omega)
        rw [if_pos j1] at x y
        exact ⟨x.1 (npart j (by omega) (by omega)), y⟩) (fun j j0 j1 => by
        have x := hr3 j (by omega) (by omega)
        have y := hl3 j (by omega) (by omega)
        rw [if_neg (by omega)] at x y
        exact ⟨x.1 (npart (j + 1) (by omega) (by omega)), y⟩)
      rw [o28, o8, show (m 8 - 1 - 1 - pu).toNat = (m 8 - pu - 1).toNat - 1 by omega, s2, s1]
end

/-! a run that fails nothing: its changes go out of the line, into a new state -/
def vC (n : Int) (C : xM) : xM := up2 C 2 3 n
def vM (n : Int) (m : Nat → Int) : Nat → Int := up1 m 0 n
section
variable {sc : Nat × (Nat → Int)} {C : xM} {m : Nat → Int} {n x : Int}
theorem yQ_tk (h : yQ C m) {c x : Int} (c0 : 0 ≤ c) (c1 : c < m 7) (hw : m (41724 + c).toNat ≠ 4) : yQ (up2 C 14 c.toNat x) (up1 m (41784 + c).toNat x) := by
  obtain ⟨a1, a2, a3, a4, a5, a6, a7, a9, a10, a11⟩ := h
  have n7 : 0 ≤ m 7 ∧ m 7 ≤ 60 := ⟨a4.1, a4.2.1⟩
  have n0 : 0 ≤ m 0 ∧ m 0 ≤ 60 ∧ C 2 3 = m 0 := a6.1
  have n1 : 0 ≤ m 1 ∧ m 1 ≤ 1152 ∧ C 2 4 = m 1 := a6.2.1
  have e : ∀ i : Nat, i ≠ (41784 + c).toNat → up1 m (41784 + c).toNat x i = m i := fun i hi => up1_ne hi
  have eC : ∀ k i : Nat, (k ≠ 14 ∨ i ≠ c.toNat) → up2 C 14 c.toNat x k i = C k i := fun k i hi => up2_ne hi
  refine ⟨yT_fr a1 (fun k i hk => eC k i (by unfold dT at hk; omega)) (fun i hi => e i (by unfold aT at hi; omega)), yL_fr a2 (eC 1 6 (by omega)) (e 5 (by omega)), yG_fr a3 (fun k i hk => eC k i (by omega)) (fun i hi => e i (by omega)), ?_, yE_fr a5 a4 (fun k i hk => eC k i (by unfold dE at hk; omega)) (fun i _ _ => eC 5 i (by omega)) (by rw [e 1 (by omega)]; exact Int.le_refl _) (fun i hi => e i (by unfold aE at hi; omega)), yB_fr a6 ⟨eC 2 3 (by omega), eC 2 4 (by omega)⟩ ⟨e 0 (by omega), e 1 (by omega)⟩ (fun s _ _ k i hk => eC k i (by unfold dS at hk; omega)) (fun i _ _ => eC 5 i (by omega)) (fun s _ _ i hi => e i (by unfold aS at hi; omega)), yW_fr a7 ⟨a4.1, a4.2.1⟩ (fun k i hk => eC k i (by omega)) (fun i hi => e i (by omega)), yO_fr a9 a4 a6 a5 ⟨e 0 (by omega), e 7 (by omega)⟩ (fun s _ _ i hi => e i (by unfold aS at hi; omega)) (fun i hi => e i (by omega)), yM_fr a10 a4 (fun i hi => e i (by omega)), ?_⟩
  · exact yA_set a4 (Or.inr (Or.inr (Or.inr (Or.inl ⟨rfl, rfl⟩)))) c0 c1 up2_eq up1_eq (fun k i hk hi => eC k i (by unfold dA at hk; omega)) (fun i hk hi => e i (by unfold aA at hk; omega))
  · refine ⟨fun s s0 s1 => ?_, fun d d0 d1 e2 => ?_⟩
    · rw [e 0 (by omega)] at s1
      obtain ⟨d, d0, d1, e4, es⟩ := a11.1 s s0 s1
      have ne : d ≠ c := fun x => hw (by rw [← x]; exact e4)
      exact ⟨d, d0, by rw [e 7 (by omega)]; exact d1, by rw [e _ (by omega)]; exact e4, by rw [e _ (by omega)]; exact es⟩
    · rw [e 7 (by omega)] at d1
      rw [e (41724 + d).toNat (by omega)] at e2
      rw [e (41844 + d).toNat (by omega)]
      exact a11.2 d d0 d1 e2
theorem yQ_take1 (h : yQ (vC n C) (vM n m)) {c p : Int} (c0 : 0 ≤ c) (c1 : c < m 7) (p0 : 0 ≤ p) (p1 : p < m 8) (hc : m (49044 + p).toNat = c) (hw : m (41724 + c).toNat = 1) : yQ (vC n (outC (up2 C 14 c.toNat x) c 4 p (m 8))) (vM n (up1 (outM m c 4 p) (41784 + c).toNat x)) := by
  have v : ∀ i : Nat, i ≠ 0 → vM n m i = m i := fun i hi => up1_ne hi
  have n7 : m 7 ≤ 60 := by have := h.2.2.2.1.2.1; rw [v 7 (by omega)] at this; exact this
  have n8 : m 8 ≤ 60 := by have := h.2.2.2.2.2.2.1.2.1; rw [v 8 (by omega)] at this; exact this
  have h2 := yQ_tk (x := x) h c0 (by rw [v 7 (by omega)]; exact c1) (by rw [v _ (by omega), hw]; omega)
  have w : ∀ i : Nat, i ≠ 0 → i ≠ (41784 + c).toNat → up1 (vM n m) (41784 + c).toNat x i = m i := fun i h1 h2 => by rw [up1_ne h2, v i h1]
  have h3 := yQ_out (c := c) (w := 4) (p := p) h2 c0 (by rw [w 7 (by omega) (by omega)]; exact c1) p0 (by rw [w 8 (by omega) (by omega)]; exact p1) (by rw [w _ (by omega) (by omega)]; exact hc) (by omega) (by omega)
  have o8 := w 8 (by omega) (by omega)
  rw [o8] at h3
  refine yQ_fr h3 (fun i hi => ?_) (fun k i hk => ?_)
  · unfold outM
    rw [o8]
    unfold vM
    by_cases z1 : i = (41724 + c).toNat
    · subst z1
      simp (disch := omega) only [up1_ne, up1_eq]
    by_cases z2 : i = (41784 + c).toNat
    · subst z2
      simp (disch := omega) only [up1_ne, up1_eq, cp1_out]
    by_cases z3 : i = 0
    · subst z3
      simp (disch := omega) only [up1_ne, up1_eq, cp1_out]
    by_cases z4 : i = 8
    · subst z4
      simp (disch := omega) only [up1_ne, up1_eq, cp1_out]
    by_cases z5 : (49044 + p).toNat ≤ i ∧ i < (49044 + p).toNat + (m 8 - 1 - p).toNat
    · simp (disch := omega) only [up1_ne, cp1_in]
    · simp (disch := omega) only [up1_ne, cp1_out]
  · unfold vC outC
    by_cases z1 : k = 38 ∧ i = 1
    · obtain ⟨rfl, rfl⟩ := z1
      simp (disch := omega) only [up2_ne, up2_eq]
    by_cases z2 : k = 2 ∧ i = 3
    · obtain ⟨rfl, rfl⟩ := z2
      simp (disch := omega) only [up2_ne, up2_eq, cp2_out]
    by_cases z3 : k = 10 ∧ i = c.toNat
    · obtain ⟨rfl, rfl⟩ := z3
      simp (disch := omega) only [up2_ne, up2_eq, cp2_out]
    by_cases z4 : k = 14 ∧ i = c.toNat
    · obtain ⟨rfl, rfl⟩ := z4
      simp (disch := omega) only [up2_ne, up2_eq, cp2_out]
    by_cases z5 : k = 40 ∧ p.toNat ≤ i ∧ i < p.toNat + (m 8 - 1 - p).toNat
    · obtain ⟨rfl, z6, z7⟩ := z5
      simp (disch := omega) only [up2_ne, cp2_in]
    · simp (disch := omega) only [up2_ne, cp2_out]
theorem wk_fr {m' : Nat → Int} (h : yP C m) (e : ∀ i : Nat, i = 9 ∨ (49104 ≤ i ∧ i < 49296) → m' i = m i) : wk m' = wk m := by
  unfold wk
  rw [e 9 (by omega)]
  exact allU_fr _ fun r hr => by
    have := rowU_le (m := m) _ r hr
    have h8 := h.2.2.1
    have n9 := h.1
    exact ⟨e _ (by omega), fun k hk => e _ (by omega)⟩
theorem chw_fr {m' : Nat → Int} (h : yP C m) (h7 : m 7 ≤ 60) (e : ∀ i : Nat, i = 9 ∨ (49104 ≤ i ∧ i < 49296) ∨ (41964 ≤ i ∧ i < 42024) → m' i = m i) : chU m' (wk m') = chU m (wk m) := by
  rw [wk_fr h (fun i hi => e i (by omega))]
  exact chU_fr _ fun u hu => by
    have := yP_u h hu
    exact e _ (by omega)
theorem take_loop {Lc : List Int} {top : Int} (len : Lc.length ≤ 16) (hin : ∀ (i j : Nat) (c : Int), Lc[i]? = some c → Lc[j]? = some c → i = j) : ∀ (k j : Nat) (i : Int) (C : xM) (m : Nat → Int), yQ (vC n C) (vM n m) → yP C m → C 2 3 = x → m 0 = x → (∀ (i : Nat) (c : Int), Lc[i]? = some c → gl (chU m (wk m)) i = c) → i = j → j + k = Lc.length → (∀ (i : Nat) (c : Int), j ≤ i → Lc[i]? = some c → 0 ≤ c ∧ c < m 7 ∧ m (41724 + c).toNat = 1) →
    ∃ (C' : xM) (m' : Nat → Int), AT sc 77 3 [vR 1, vI Lc.length, vI i] [] (SK, C) = AT sc 77 9 [vR 1, vN, vN] [] (SK, C') ∧
    (∀ ν : xM, ν 140 = m → isL (ν 143) Lc → ∃ ν' : xM, AT sc 220 29 [vR 139, vI top, vI Lc.length, vN, vN, vN, vN, vN, vN, vI i, vN] [] (SK, ν) = AT sc 220 32 [vR 139, vI top, vN, vN, vN, vN, vN, vN, vN, vN, vN] [] (SK, ν') ∧ ν' 140 = m' ∧ frR ν ν') ∧
    yQ (vC n C') (vM n m') ∧ yP C' m' ∧ C' 2 3 = x ∧ m' 0 = x ∧ (∀ k i : Nat, k ≠ 10 ∧ k ≠ 14 ∧ k ≠ 40 ∧ k ≠ 38 → C' k i = C k i) ∧ (∀ i : Nat, i ≠ 8 ∧ (i < 41724 ∨ 41844 ≤ i) ∧ (i < 49044 ∨ 49104 ≤ i) → m' i = m i) ∧ (∀ (i : Nat) (c : Int), j ≤ i → Lc[i]? = some c → m' (41724 + c).toNat = 4 ∧ m' (41784 + c).toNat = x) ∧ (∀ d : Int, 0 ≤ d → d < m 7 → m (41724 + d).toNat ≠ 1 → m' (41724 + d).toNat = m (41724 + d).toNat ∧ m' (41784 + d).toNat = m (41784 + d).toNat) := by
  intro k
  induction k with
  | zero =>
    intro j i C m h hP h2 h0 hg hi e hr
    refine ⟨C, m, ?_, fun ν hν hR => ⟨ν, ?_, hν, .rf⟩, h, hP, h2, h0, fun _ _ _ => rfl, fun _ _ => rfl, fun i' c hi' hc => ?_, fun _ _ _ _ => ⟨rfl, rfl⟩⟩
    · rw [B77_3, if_neg (by omega)]
    · rw [B220_29, if_neg (by omega)]
    · have := (List.getElem?_eq_some_iff.mp hc).1
      omega
  | succ k ih =>
    intro j i C m h hP h2 h0 hg hi e hr
    have v : ∀ i : Nat, i ≠ 0 → vM n m i = m i := fun i hi => up1_ne hi
    have n7 : 0 ≤ m 7 ∧ m 7 ≤ 60 := by
      have g := h.2.2.2.1
      have g1 := g.1
      have g2 := g.2.1
      rw [v 7 (by omega)] at g1 g2
      exact ⟨g1, g2⟩
    have hW : yW C m := yW_fr h.2.2.2.2.2.2.1 (by rw [v 7 (by omega)]; exact n7) (fun k i hk => (up2_ne (by omega)).symm) (fun i hi => (up1_ne (by omega)).symm)
    have n8 : m 8 ≤ 60 := hW.2.1
    obtain ⟨c, hcj, hd⟩ := drop_cons (l := Lc) (i := j) (by omega)
    obtain ⟨c0, c1, cw⟩ := hr j c (Nat.le_refl _) hcj
    obtain ⟨p, p0, p1, hp⟩ := hW.2.2.2.2.2 c c0 c1 cw
    have k64 := K64 (sc := sc) (μ := up2 C 14 c.toNat x) (w := 4) (yW_fr hW n7 (fun k i hk => up2_ne (by omega)) (fun _ _ => rfl)) n7 c0 c1 p0 p1 hp
    have k107 := K107 (sc := sc) hP (x := i) (by omega) (by omega)
    have k107b := K107 (sc := sc) (μ := up2 C 14 c.toNat x) (yP_fr hP (Int.le_refl _) (fun k i hk => up2_ne (by omega)) (fun _ _ => rfl) (fun _ _ _ _ => rfl) (fun _ _ _ x => x)) (x := i) (by omega) (by omega)
    rw [hi, hg j c hcj] at k107 k107b
    have g0 := yQ_take1 (x := x) h c0 c1 p0 p1 hp cw
    have em : ∀ i : Nat, i ≠ 8 ∧ i ≠ (41724 + c).toNat ∧ i ≠ (41784 + c).toNat ∧ (i < 49044 ∨ 49104 ≤ i) → up1 (outM m c 4 p) (41784 + c).toNat x i = m i := fun i hi => by
      rw [up1_ne (by omega), outM_ne (by omega) p0 p1]
    have eC : ∀ k i : Nat, k ≠ 10 ∧ (k ≠ 14 ∨ i ≠ c.toNat) ∧ k ≠ 40 ∧ k ≠ 38 → outC (up2 C 14 c.toNat x) c 4 p (m 8) k i = C k i := fun k i hi => by
      unfold outC
      rw [up2_ne (by omega), cp2_out (by omega), up2_ne (by omega), up2_ne (by omega)]
    have ewc : up1 (outM m c 4 p) (41784 + c).toNat x (41724 + c).toNat = 4 := by rw [up1_ne (by omega), outM_w]
    have exc : up1 (outM m c 4 p) (41784 + c).toNat x (41784 + c).toNat = x := up1_eq
    have hP2 : yP (outC (up2 C 14 c.toNat x) c 4 p (m 8)) (up1 (outM m c 4 p) (41784 + c).toNat x) := yP_fr hP (by rw [em 7 (by omega)]; exact Int.le_refl _) (fun k i hk => eC k i (by omega)) (fun i hi => em i (by omega)) (fun u u0 u1 _ => em (41964 + u).toNat (by omega)) (fun u u0 u1 hu => by
      by_cases eu : u = c
      · rw [eu, ewc]; omega
      · rw [em _ (by omega)]; exact hu)
    have hg2 : ∀ (i : Nat) (c' : Int), Lc[i]? = some c' → gl (chU (up1 (outM m c 4 p) (41784 + c).toNat x) (wk (up1 (outM m c 4 p) (41784 + c).toNat x))) i = c' := fun i c' hi => by
      rw [chw_fr hP n7.2 (fun i hi => em i (by omega))]
      exact hg i c' hi
    obtain ⟨C', m', x1, x2, x3, x4, x5, x6, x7, x8, x9, x10⟩ := ih (j + 1) (i + 1) _ _ g0 hP2 (by rw [eC 2 3 (by omega)]; exact h2) (by rw [em 0 (by omega)]; exact h0) hg2 (by omega) (by omega) (fun i' c' hi' hc' => by
      obtain ⟨d0, d1, dw⟩ := hr i' c' (by omega) hc'
      have ne : c' ≠ c := fun x => by
        have := hin i' j c' hc' (by rw [x]; exact hcj)
        omega
      rw [em 7 (by omega), em _ (by omega)]
      exact ⟨d0, d1, dw⟩)
    have o0 : outM m c 4 p 0 = x := by rw [outM_ne (by omega) p0 p1]; exact h0
    refine ⟨C', m', ?_, fun ν hν hR => ?_, x3, x4, x5, x6, fun k i hk => by rw [x7 k i hk, eC k i (by omega)], fun i hi => by rw [x8 i hi, em i (by omega)], fun i' c' hi' hc' => ?_, fun d d0 d1 dw => ?_⟩
    · subst hi
      rw [B77_3]
      simp (disch := omega) only [k107, B77_4, V1, B1_0, h2, B77_5, V30, B30_0, B30_1, S_13, st_in, B77_6, k107b, B77_7, k64, B77_8, x1, xcI_some, xcV_some, if_pos, if_neg, xg_in, wr_of, if_true, if_false, or_true, true_or]
    · have rc : ν 143 i.toNat = c := by rw [show i.toNat = j by omega]; exact hR j c hcj
      obtain ⟨ν1, v1, v2, v3⟩ := m200 (sc := sc) (w := 4) hν hW n7 c0 c1 p0 p1 hp
      have rc1 : ν1 143 i.toNat = c := by rw [v3 143 (by omega)]; exact rc
      obtain ⟨ν', u1, u2, u3⟩ := x2 (up2 ν1 140 (41784 + c).toNat x) (by rw [up2_row, v2]) (by rw [up2_k (by omega), v3 143 (by omega)]; exact hR)
      refine ⟨ν', ?_, u2, v3.tr ((frR.up rfl).tr u3)⟩
      rw [B220_29]
      simp (disch := omega) only [rc, v1, B220_30, rc1, v2, o0, B220_31, u1, xcI_some, xcV_some, if_pos, if_neg, xg_in, wr_of, if_true, if_false, or_true, true_or]
    · by_cases ei : i' = j
      · rw [ei, hcj] at hc'
        have ec : c = c' := Option.some.inj hc'
        subst ec
        have z := x10 c c0 (by rw [em 7 (by omega)]; exact c1) (by rw [ewc]; omega)
        rw [ewc, exc] at z
        exact z
      · exact x9 i' c' (by omega) hc'
    · have ne : d ≠ c := fun x => dw (by rw [x]; exact cw)
      have z := x10 d d0 (by rw [em 7 (by omega)]; exact d1) (by rw [em _ (by omega)]; exact dw)
      rw [em (41724 + d).toNat (by omega), em (41784 + d).toNat (by omega)] at z
      exact z
theorem yQ_add {ρ : Int → Int → Int} (h : yQ (vC n C) (vM n m)) (n0 : 0 ≤ n) (n60 : n < 60) (h0 : m 0 = n + 1) (h2 : C 2 3 = n + 1) (hS : ySl C m (n + 1) (n + 1)) (ho : oB ρ (vM n m)) (hρ : oSl ρ m (n + 1)) (hwit : ∃ c : Int, 0 ≤ c ∧ c < m 7 ∧ m (41724 + c).toNat = 4 ∧ m (41784 + c).toNat = n + 1) : yQ C m := by
  obtain ⟨a1, a2, a3, a4, a5, a6, a7, a9, a10, a11⟩ := h
  have n7 : 0 ≤ vM n m 7 ∧ vM n m 7 ≤ 60 := ⟨a4.1, a4.2.1⟩
  have e : ∀ i : Nat, i ≠ 0 → m i = vM n m i := fun i hi => (up1_ne hi).symm
  have eC : ∀ k i : Nat, (k ≠ 2 ∨ i ≠ 3) → C k i = vC n C k i := fun k i hi => (up2_ne (by omega)).symm
  have v0 : vM n m 0 = n := up1_eq
  refine ⟨yT_fr a1 (fun k i hk => eC k i (by unfold dT at hk; omega)) (fun i hi => e i (by unfold aT at hi; omega)), yL_fr a2 (eC 1 6 (by omega)) (e 5 (by omega)), yG_fr a3 (fun k i hk => eC k i (by omega)) (fun i hi => e i (by omega)), yA_fr a4 (fun k i hk => eC k i (by unfold dA at hk; omega)) (fun i hi => e i (by unfold aA at hi; omega)), yE_fr a5 a4 (fun k i hk => eC k i (by unfold dE at hk; omega)) (fun i _ _ => eC 5 i (by omega)) (by rw [e 1 (by omega)]; exact Int.le_refl _) (fun i hi => e i (by unfold aE at hi; omega)), ?_, yW_fr a7 ⟨a4.1, a4.2.1⟩ (fun k i hk => eC k i (by omega)) (fun i hi => e i (by omega)), ?_, yM_fr a10 a4 (fun i hi => e i (by omega)), ?_⟩
  · unfold yB
    rw [h0, h2]
    refine ⟨⟨by omega, by omega, rfl⟩, ?_, fun s f s0 s1 f0 f1 => ?_⟩
    · rw [e 1 (by omega), eC 2 4 (by omega)]
      exact a6.2.1
    · by_cases es : s = n + 1
      · subst es
        exact hS f f0 f1
      · exact yF_fr (a6.2.2 s f s0 (by rw [v0]; omega) f0 f1) (fun k i hk => eC k i (by unfold dS at hk; omega)) (fun i _ _ => eC 5 i (by omega)) (by rw [e 1 (by omega)]; exact Int.le_refl _) (fun i hi => e i (by unfold aS at hi; omega)) s0 s0 ⟨f0, f1⟩
  · refine ⟨ρ, fun s f s0 s1 f0 f1 => ?_, fun c k c0 c1 k0 k1 => ?_⟩
    · by_cases es : s = n + 1
      · subst es
        exact hρ f f0 f1
      · have g := ho.1 s f s0 (by rw [v0]; omega) f0 f1
        rw [e (12 + 8 * s + f).toNat (by omega), mkL_fr (m := vM n m) (m' := m) (fun k k0 k1 => e _ (by omega))]
        exact g
    · rw [e 7 (by omega)] at c1
      rw [e (41904 + c).toNat (by omega)] at k1
      have he := ((a5 c c0 c1).1 k k0 k1).2.1
      have hne := (a4.2.2.2 c c0 c1).2.1
      exact yOk_fr (ho.2 c k c0 c1 k0 k1) (by omega) (by omega) (by omega) (fun i hi => e i (by unfold aEe at hi; omega))
  · refine ⟨fun s s0 s1 => ?_, fun c c0 c1 e2 => ?_⟩
    · by_cases es : s = n + 1
      · rw [es]; exact hwit
      · obtain ⟨c, c0, c1, e4, e5⟩ := a11.1 s s0 (by rw [v0]; omega)
        exact ⟨c, c0, by rw [e 7 (by omega)]; exact c1, by rw [e _ (by omega)]; exact e4, by rw [e _ (by omega)]; exact e5⟩
    · rw [e 7 (by omega)] at c1
      rw [e (41724 + c).toNat (by omega)] at e2
      rw [e (41844 + c).toNat (by omega)]
      exact a11.2 c c0 c1 e2
end

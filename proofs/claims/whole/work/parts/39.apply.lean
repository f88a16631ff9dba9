/-! an edit done on a slot -/
def apM (m : Nat → Int) (s f a t q n e : Int) : Nat → Int :=
  up1 (fl1 (fl1 (fl1 (fl1 m (21004 + (320 * s + 40 * f + (a + q))).toNat (n - a - t).toNat (fun i => m (21004 + (320 * s + 40 * f + (a + t + (i : Int)))).toNat)) (524 + (320 * s + 40 * f + (a + q))).toNat (n - a - t).toNat (fun i => m (524 + (320 * s + 40 * f + (a + t + (i : Int)))).toNat))
    (21004 + (320 * s + 40 * f + a)).toNat q.toNat (fun i => m (46164 + 6 * e + (i : Int)).toNat)) (524 + (320 * s + 40 * f + a)).toNat q.toNat (fun i => m (47604 + 6 * e + (i : Int)).toNat)) (12 + 8 * s + f).toNat (n + (q - t))
def dC (C : xM) (s f p t q n e : Int) : xM := fl2 (up2 (cp2 C 3 ((s * 8 + f) * 24 + p + t).toNat 3 ((s * 8 + f) * 24 + p + q).toNat (n - p - t).toNat) 4 (s * 8 + f).toNat (p + q + (n - p - t))) 3 ((s * 8 + f) * 24 + p).toNat q.toNat (fun i => C 37 (6 * e + (i : Int)).toNat)
/-- one file of a slot -/
def aSf (s f : Int) (i : Nat) : Prop := (i : Int) = 12 + 8 * s + f ∨ (524 + (320 * s + 40 * f) ≤ i ∧ (i : Int) < 524 + (320 * s + 40 * f) + 24) ∨ (21004 + (320 * s + 40 * f) ≤ i ∧ (i : Int) < 21004 + (320 * s + 40 * f) + 24)
def dSf (s f : Int) (k i : Nat) : Prop := (k = 4 ∧ (i : Int) = s * 8 + f) ∨ (k = 3 ∧ (s * 8 + f) * 24 ≤ i ∧ (i : Int) < (s * 8 + f) * 24 + 24)
section
variable {sc : Nat × (Nat → Int)} {μ ν C : xM} {m : Nat → Int}
theorem m189 {s f a t q n e : Int} (s0 : 0 ≤ s) (s1 : s < 64) (f0 : 0 ≤ f) (f1 : f < 8) (e0 : 0 ≤ e) (e1 : e < 240) (hf : m (42084 + e).toNat = f) (ht : m (42324 + e).toNat = t) (hq : m (42564 + e).toNat = q) (hn : m (12 + 8 * s + f).toNat = n) (a0 : 0 ≤ a) (t0 : 0 ≤ t) (t6 : t ≤ 6) (q0 : 0 ≤ q) (q6 : q ≤ 6) (h1 : a + t ≤ n) (n24 : n ≤ 24) (h2 : n - t + q ≤ 24)
    (hp : ∀ ν : xM, ν 140 = m → EV sc 187 [vR 139, vI e, vI s, vI 0] (SK, ν) = some (some (vI a), (SK, ν))) : rS m (fun ν => EV sc 189 [vR 139, vI e, vI s] (SK, ν)) (fun ν => some (none, (SK, ν))) (apM m s f a t q n e) := by
  intro ν hν
  have hp1 := hp ν hν
  have hY : ∀ i : Nat, ν 140 i = m i := fun i => congrFun hν i
  have x5 : n + (q - t) = n + (q - t) := rfl

  have mv : ∃ _ : Unit, AT sc 189 2 [vR 139, vI e, vI s, vI f, vI a, vN, vN, vN, vN] [vI n] (SK, ν) = AT sc 189 9 [vR 139, vI e, vI s, vI f, vI a, vI n, vN, vI (q - t), vN] [] (SK, fl2 (fl2 ν 140 (21004 + (320 * s + 40 * f + (a + q))).toNat (n - a - t).toNat (fun i => m (21004 + (320 * s + 40 * f + (a + t + (i : Int)))).toNat)) 140 (524 + (320 * s + 40 * f + (a + q))).toNat (n - a - t).toNat (fun i => m (524 + (320 * s + 40 * f + (a + t + (i : Int)))).toNat)) := by
    refine ⟨(), ?_⟩
    by_cases hqt : t < q
    · have dl : ∀ (G H : Nat → Int) (b d c : Nat), b = (21004 + (320 * s + 40 * f + (a + q))).toNat → d = (524 + (320 * s + 40 * f + (a + q))).toNat → c = (n - a - t).toNat → (∀ i : Nat, G (b + i) = m (21004 + (320 * s + 40 * f + (a + t + (i : Int)))).toNat) → (∀ i : Nat, H (d + i) = m (524 + (320 * s + 40 * f + (a + t + (i : Int)))).toNat) → ∀ (r : Nat) (x : Int), r ≤ c → x = a + t + r - 1 → AT sc 189 3 [vR 139, vI e, vI s, vI f, vI a, vI n, vI t, vI (q - t), vI x] [] (SK, fl2 (fl2 ν 140 (b + r) (c - r) (fun i => G (b + r + i))) 140 (d + r) (c - r) (fun i => H (d + r + i))) = AT sc 189 5 [vR 139, vI e, vI s, vI f, vI a, vI n, vN, vI (q - t), vN] [] (SK, fl2 (fl2 ν 140 b c (fun i => G (b + i))) 140 d c (fun i => H (d + i))) := by
        intro G H b d c hb hd hc hG hH r
        induction r with
        | zero =>
          intro x _ hx
          rw [B189_3]
          simp (disch := omega) only [xcI_some, xcV_some, if_pos, if_neg, xg_in, wr_of, if_true, if_false, or_true, true_or, Nat.add_zero, Nat.sub_zero]
        | succ r ih =>
          intro x hr hx
          have ih1 := ih (x - 1) (by omega) (by omega)
          have v1 : m (21004 + (320 * s + 40 * f + x)).toNat = G (b + r) := by rw [hG, show a + t + (r : Int) = x by omega]
          have v2 : m (524 + (320 * s + 40 * f + x)).toNat = H (d + r) := by rw [hH, show a + t + (r : Int) = x by omega]
          have m1 := m190 (sc := sc) (ν := fl2 (fl2 ν 140 (b + (r + 1)) (c - (r + 1)) (fun i => G (b + (r + 1) + i))) 140 (d + (r + 1)) (c - (r + 1)) (fun i => H (d + (r + 1) + i))) (s := s) (f := f) (i := x) (t := x + (q - t)) s0 s1 f0 f1 (by omega) (by omega) (by omega) (by omega)
          have r1 : fl2 (fl2 ν 140 (b + (r + 1)) (c - (r + 1)) (fun i => G (b + (r + 1) + i))) 140 (d + (r + 1)) (c - (r + 1)) (fun i => H (d + (r + 1) + i)) 140 (21004 + (320 * s + 40 * f + x)).toNat = m (21004 + (320 * s + 40 * f + x)).toNat := by rw [fl2_out (by omega), fl2_out (by omega), hν]
          have r2 : fl2 (fl2 ν 140 (b + (r + 1)) (c - (r + 1)) (fun i => G (b + (r + 1) + i))) 140 (d + (r + 1)) (c - (r + 1)) (fun i => H (d + (r + 1) + i)) 140 (524 + (320 * s + 40 * f + x)).toNat = m (524 + (320 * s + 40 * f + x)).toNat := by rw [fl2_out (by omega), fl2_out (by omega), hν]
          rw [r1, r2, v1, v2, show (21004 + (320 * s + 40 * f + (x + (q - t)))).toNat = b + r by omega, show (524 + (320 * s + 40 * f + (x + (q - t)))).toNat = d + r by omega, fl2_up (by omega), show b + (r + 1) = b + r + 1 by omega, show d + (r + 1) = d + r + 1 by omega, fl2_front rfl, fl2_front rfl, show c - (r + 1) + 1 = c - r by omega] at m1
          rw [B189_3]
          have exx : x + -1 = x - 1 := by omega
          simp (disch := omega) only [m1, B189_4, exx, ih1, show b + (r + 1) = b + r + 1 from rfl, show d + (r + 1) = d + r + 1 from rfl, xcI_some, xcV_some, if_pos, if_neg, xg_in, wr_of, if_true, if_false, or_true, true_or]
      have d1 := dl (fun j => m (21004 + (320 * s + 40 * f + (a + t + ((j : Int) - (21004 + (320 * s + 40 * f + (a + q))))))).toNat) (fun j => m (524 + (320 * s + 40 * f + (a + t + ((j : Int) - (524 + (320 * s + 40 * f + (a + q))))))).toNat) _ _ _ rfl rfl rfl (fun i => by simp only [show ((((21004 + (320 * s + 40 * f + (a + q))).toNat + i : Nat)) : Int) - (21004 + (320 * s + 40 * f + (a + q))) = i by omega]) (fun i => by simp only [show ((((524 + (320 * s + 40 * f + (a + q))).toNat + i : Nat)) : Int) - (524 + (320 * s + 40 * f + (a + q))) = i by omega]) (n - a - t).toNat (n - 1) (Nat.le_refl _) (by omega)
      rw [Nat.sub_self, fl2_0, fl2_0] at d1
      have g1 : (fun i : Nat => (fun j : Nat => m (21004 + (320 * s + 40 * f + (a + t + ((j : Int) - (21004 + (320 * s + 40 * f + (a + q))))))).toNat) ((21004 + (320 * s + 40 * f + (a + q))).toNat + i)) = fun i : Nat => m (21004 + (320 * s + 40 * f + (a + t + (i : Int)))).toNat := by
        funext i
        simp only [show ((((21004 + (320 * s + 40 * f + (a + q))).toNat + i : Nat)) : Int) - (21004 + (320 * s + 40 * f + (a + q))) = i by omega]
      have g2 : (fun i : Nat => (fun j : Nat => m (524 + (320 * s + 40 * f + (a + t + ((j : Int) - (524 + (320 * s + 40 * f + (a + q))))))).toNat) ((524 + (320 * s + 40 * f + (a + q))).toNat + i)) = fun i : Nat => m (524 + (320 * s + 40 * f + (a + t + (i : Int)))).toNat := by
        funext i
        simp only [show ((((524 + (320 * s + 40 * f + (a + q))).toNat + i : Nat)) : Int) - (524 + (320 * s + 40 * f + (a + q))) = i by omega]
      rw [g1, g2] at d1
      simp (disch := omega) only [B189_2, hν, ht, hq, d1, B189_5, xcI_some, xcV_some, if_pos, if_neg, xg_in, wr_of, if_true, if_false, or_true, true_or]
    · have al : ∀ (k j : Nat) (x : Int), x = a + t + j → j + k = (n - a - t).toNat → AT sc 189 7 [vR 139, vI e, vI s, vI f, vI a, vI n, vN, vI (q - t), vI x] [] (SK, fl2 (fl2 ν 140 (21004 + (320 * s + 40 * f + (a + q))).toNat j (fun i => m (21004 + (320 * s + 40 * f + (a + t + (i : Int)))).toNat)) 140 (524 + (320 * s + 40 * f + (a + q))).toNat j (fun i => m (524 + (320 * s + 40 * f + (a + t + (i : Int)))).toNat)) =
          AT sc 189 9 [vR 139, vI e, vI s, vI f, vI a, vI n, vN, vI (q - t), vN] [] (SK, fl2 (fl2 ν 140 (21004 + (320 * s + 40 * f + (a + q))).toNat (n - a - t).toNat (fun i => m (21004 + (320 * s + 40 * f + (a + t + (i : Int)))).toNat)) 140 (524 + (320 * s + 40 * f + (a + q))).toNat (n - a - t).toNat (fun i => m (524 + (320 * s + 40 * f + (a + t + (i : Int)))).toNat)) := by
        intro k
        induction k with
        | zero =>
          intro j x hx e2
          rw [B189_7]
          simp (disch := omega) only [xcI_some, xcV_some, if_pos, if_neg, xg_in, wr_of, if_true, if_false, or_true, true_or]
          rw [show j = (n - a - t).toNat by omega]
        | succ k ih =>
          intro j x hx e2
          have ih1 := ih (j + 1) (x + 1) (by omega) (by omega)
          have m1 := m190 (sc := sc) (ν := fl2 (fl2 ν 140 (21004 + (320 * s + 40 * f + (a + q))).toNat j (fun i => m (21004 + (320 * s + 40 * f + (a + t + (i : Int)))).toNat)) 140 (524 + (320 * s + 40 * f + (a + q))).toNat j (fun i => m (524 + (320 * s + 40 * f + (a + t + (i : Int)))).toNat)) (s := s) (f := f) (i := x) (t := x + (q - t)) s0 s1 f0 f1 (by omega) (by omega) (by omega) (by omega)
          rw [fl2_out (j := (21004 + (320 * s + 40 * f + x)).toNat) (by omega), fl2_out (j := (21004 + (320 * s + 40 * f + x)).toNat) (by omega), fl2_out (j := (524 + (320 * s + 40 * f + x)).toNat) (by omega), fl2_out (j := (524 + (320 * s + 40 * f + x)).toNat) (by omega), hν,
            fl2_up (i := (21004 + (320 * s + 40 * f + (x + (q - t)))).toNat) (by omega), fl2_step (i := (21004 + (320 * s + 40 * f + (x + (q - t)))).toNat) (by omega) (by rw [hx]), fl2_step (by omega) (by rw [hx])] at m1
          rw [B189_7]
          simp (disch := omega) only [m1, B189_8, ih1, xcI_some, xcV_some, if_pos, if_neg, xg_in, wr_of, if_true, if_false, or_true, true_or]
      have l0 := al (n - a - t).toNat 0 (a + t) (by omega) (by omega)
      rw [fl2_0, fl2_0] at l0
      simp (disch := omega) only [B189_2, hν, ht, hq, B189_6, l0, xcI_some, xcV_some, if_pos, if_neg, xg_in, wr_of, if_true, if_false, or_true, true_or]
  obtain ⟨_, mv⟩ := mv
  have pt : ∀ (Z : xM), Z 140 (42564 + e).toNat = q → (∀ i : Nat, 46164 ≤ i → Z 140 i = m i) → ∀ (k j : Nat) (i : Int), i = j → j + k = q.toNat → AT sc 189 10 [vR 139, vI e, vI s, vI f, vI a, vI n, vN, vI (q - t), vI i] [] (SK, fl2 (fl2 Z 140 (21004 + (320 * s + 40 * f + a)).toNat j (fun i => m (46164 + 6 * e + (i : Int)).toNat)) 140 (524 + (320 * s + 40 * f + a)).toNat j (fun i => m (47604 + 6 * e + (i : Int)).toNat)) =
      some (none, (SK, up2 (fl2 (fl2 Z 140 (21004 + (320 * s + 40 * f + a)).toNat q.toNat (fun i => m (46164 + 6 * e + (i : Int)).toNat)) 140 (524 + (320 * s + 40 * f + a)).toNat q.toNat (fun i => m (47604 + 6 * e + (i : Int)).toNat)) 140 (12 + 8 * s + f).toNat (n + (q - t)))) := by
    intro Z hZq hZ k
    induction k with
    | zero =>
      intro j i hi e2
      rw [B189_10]
      simp (disch := omega) only [fl2_out, hZq, B189_13, xcI_some, xcV_some, if_pos, if_neg, xg_in, wr_of, if_true, if_false, or_true, true_or]
      rw [show j = q.toNat by omega]
    | succ k ih =>
      intro j i hi e2
      have ih1 := ih (j + 1) (i + 1) (by omega) (by omega)
      have z1 := hZ (46164 + 6 * e + i).toNat (by omega)
      have z2 := hZ (47604 + 6 * e + i).toNat (by omega)
      have u1 : up2 (up2 (fl2 (fl2 Z 140 (21004 + (320 * s + 40 * f + a)).toNat j (fun i => m (46164 + 6 * e + (i : Int)).toNat)) 140 (524 + (320 * s + 40 * f + a)).toNat j (fun i => m (47604 + 6 * e + (i : Int)).toNat)) 140 (21004 + (320 * s + 40 * f + (a + i))).toNat (m (46164 + 6 * e + i).toNat)) 140 (524 + (320 * s + 40 * f + (a + i))).toNat (m (47604 + 6 * e + i).toNat) =
          fl2 (fl2 Z 140 (21004 + (320 * s + 40 * f + a)).toNat (j + 1) (fun i => m (46164 + 6 * e + (i : Int)).toNat)) 140 (524 + (320 * s + 40 * f + a)).toNat (j + 1) (fun i => m (47604 + 6 * e + (i : Int)).toNat) := by
        rw [fl2_up (i := (21004 + (320 * s + 40 * f + (a + i))).toNat) (by omega), fl2_step (i := (21004 + (320 * s + 40 * f + (a + i))).toNat) (by omega) (by rw [hi]), fl2_step (by omega) (by rw [hi])]
      rw [B189_10]
      simp (disch := omega) only [fl2_out, hZq, m167, B189_11, z1, up2_ne, B189_12, z2, u1, ih1, xcI_some, xcV_some, if_pos, if_neg, xg_in, wr_of, if_true, if_false, or_true, true_or]
  generalize hZ : fl2 (fl2 ν 140 (21004 + (320 * s + 40 * f + (a + q))).toNat (n - a - t).toNat (fun i => m (21004 + (320 * s + 40 * f + (a + t + (i : Int)))).toNat)) 140 (524 + (320 * s + 40 * f + (a + q))).toNat (n - a - t).toNat (fun i => m (524 + (320 * s + 40 * f + (a + t + (i : Int)))).toNat) = Z at mv
  have p0 := pt Z (by rw [← hZ, fl2_out (by omega), fl2_out (by omega), hν, hq]) (fun i hi => by rw [← hZ, fl2_out (by omega), fl2_out (by omega), hν]) q.toNat 0 0 rfl (by omega)
  rw [fl2_0, fl2_0] at p0
  have z3 : frR ν Z := by
    rw [← hZ]
    exact (frR.fl (by omega)).tr (frR.fl (by omega))
  refine ⟨_, ?_, ?_, z3.tr ((frR.fl (k := 140) (b := (21004 + (320 * s + 40 * f + a)).toNat) (n := q.toNat) (g := fun i => m (46164 + 6 * e + (i : Int)).toNat) (by omega)).tr ((frR.fl (k := 140) (b := (524 + (320 * s + 40 * f + a)).toNat) (n := q.toNat) (g := fun i => m (47604 + 6 * e + (i : Int)).toNat) (by omega)).tr (frR.up (k := 140) (i := (12 + 8 * s + f).toNat) (v := n + (q - t)) (by omega))))⟩
  · show EV sc 189 [vR 139, vI e, vI s] (SK, ν) = _
    simp (disch := omega) only [V189, B189_0, hν, hf, hp1, B189_1, m166, hn, mv, B189_9, p0, xcI_some, xcV_some, if_pos, if_neg, xg_in, wr_of, if_true, if_false, or_true, true_or]
  · rw [up2_row, fl2_row, fl2_row, ← hZ, fl2_row, fl2_row, hν]
    rfl
theorem K57 {s f p t q n e : Int} (s0 : 0 ≤ s) (s1 : s < 63) (f0 : 0 ≤ f) (f1 : f < 8) (e0 : 0 ≤ e) (e1 : e < 240) (h25 : μ 25 e.toNat = f) (h31 : μ 31 e.toNat = t) (h33 : μ 33 e.toNat = q) (hn : μ 4 (s * 8 + f).toNat = n) (p0 : 0 ≤ p) (t0 : 0 ≤ t) (t6 : t ≤ 6) (q0 : 0 ≤ q) (q6 : q ≤ 6) (h1 : p + t ≤ n) (n24 : n ≤ 24) (h2 : n - t + q ≤ 24) : EV sc 57 [vR 23, vI e, vR 2, vI s, vI p] (SK, μ) = some (none, (SK, dC μ s f p t q n e)) := by
  have k13 := K13 (sc := sc) (μ := μ) s0 s1 f0 f1 hn n24 p0 t0 q0 (by omega) h1 h2
  have l : ∀ (Y : xM), (∀ i : Nat, Y 37 i = μ 37 i) → ∀ (k j : Nat) (i : Int), i = j → j + k = q.toNat → AT sc 57 5 [vR 23, vI e, vR 2, vI s, vI p, vI f, vI q, vI i] [] (SK, fl2 Y 3 ((s * 8 + f) * 24 + p).toNat j (fun i => μ 37 (6 * e + (i : Int)).toNat)) = some (none, (SK, fl2 Y 3 ((s * 8 + f) * 24 + p).toNat q.toNat (fun i => μ 37 (6 * e + (i : Int)).toNat))) := by
    intro Y hY k
    induction k with
    | zero =>
      intro j i hi e2
      rw [B57_5]
      simp (disch := omega) only [B57_8, xcI_some, xcV_some, if_pos, if_neg, xg_in, wr_of, if_true, if_false, or_true, true_or]
      rw [show j = q.toNat by omega]
    | succ k ih =>
      intro j i hi e2
      have ih1 := ih (j + 1) (i + 1) (by omega) (by omega)
      have y1 := hY (6 * e + i).toNat
      have ix : e * 6 + i = 6 * e + i := by omega
      have iz : ((s * 8 + f) * 24 + (p + i)).toNat = ((s * 8 + f) * 24 + p).toNat + j := by omega
      have u1 : up2 (fl2 Y 3 ((s * 8 + f) * 24 + p).toNat j (fun i => μ 37 (6 * e + (i : Int)).toNat)) 3 (((s * 8 + f) * 24 + p).toNat + j) (μ 37 (6 * e + i).toNat) = fl2 Y 3 ((s * 8 + f) * 24 + p).toNat (j + 1) (fun i => μ 37 (6 * e + (i : Int)).toNat) := fl2_step rfl (by rw [hi])
      rw [B57_5]
      simp (disch := omega) only [G_36, gt_in, ix, fl2_out, y1, B57_6, K12, iz, u1, B57_7, ih1, xcI_some, xcV_some, if_pos, if_neg, xg_in, wr_of, if_true, if_false, or_true, true_or]
  have l0 := l (up2 (cp2 μ 3 ((s * 8 + f) * 24 + p + t).toNat 3 ((s * 8 + f) * 24 + p + q).toNat (n - p - t).toNat) 4 (s * 8 + f).toNat (p + q + (n - p - t))) (fun i => by rw [up2_ne (by omega), cp2_out (by omega)]) q.toNat 0 0 rfl (by omega)
  rw [fl2_0] at l0
  simp (disch := omega) only [V57, B57_0, B57_1, B57_2, B57_3, B57_4, G_24, G_30, G_32, gt_in, h25, h31, h33, k13, l0, xcI_some, xcV_some, if_pos, if_neg, xg_in, wr_of, if_true, if_false, or_true, true_or]
  rfl
theorem apM_ne {s f a t q n e : Int} {i : Nat} (s0 : 0 ≤ s) (f0 : 0 ≤ f) (a0 : 0 ≤ a) (t0 : 0 ≤ t) (q0 : 0 ≤ q) (h1 : a + t ≤ n) (n24 : n ≤ 24) (h2 : n - t + q ≤ 24) (h : ¬ aSf s f i) : apM m s f a t q n e i = m i := by
  unfold aSf at h
  unfold apM
  rw [up1_ne (by omega), fl1_out (by omega), fl1_out (by omega), fl1_out (by omega), fl1_out (by omega)]
theorem dC_ne {s f p t q n e : Int} {k i : Nat} (s0 : 0 ≤ s) (f0 : 0 ≤ f) (p0 : 0 ≤ p) (t0 : 0 ≤ t) (q0 : 0 ≤ q) (h1 : p + t ≤ n) (n24 : n ≤ 24) (h2 : n - t + q ≤ 24) (h : ¬ dSf s f k i) : dC C s f p t q n e k i = C k i := by
  unfold dSf at h
  unfold dC
  rw [fl2_out (by omega), up2_ne (by omega), cp2_out (by omega)]
/-- after an edit: the file, in the class and in the reference -/
theorem ap_yF {s s' f p t q n e ah bh : Int} (hF : yF C m s s' f) (hP : yEl C m 37 46164 47604 e q) (s0 : 0 ≤ s) (s0' : 0 ≤ s') (s1' : s' < 64) (f0 : 0 ≤ f) (f1 : f < 8) (e0 : 0 ≤ e) (e1 : e < 240) (hn : m (12 + 8 * s' + f).toNat = n) (p0 : 0 ≤ p) (t0 : 0 ≤ t) (t6 : t ≤ 6) (q0 : 0 ≤ q) (q6 : q ≤ 6) (h1 : p + t ≤ n) (h2 : n - t + q ≤ 24)
    (h3 : mkS m s' f (p - 1) = ah) (h4 : mkS m s' f (p + t) = bh) : yF (dC C s f p t q n e) (apM m s' f p t q n e) s s' f ∧ ∀ ρ : Int → Int, ychain ρ (fiL m s' f) → ychain ρ (opt0 ah ++ mkL m (46164 + 6 * e) q ++ opt0 bh) → ychain ρ (fiL (apM m s' f p t q n e) s' f) := by
  obtain ⟨g1, g2, g3, g4⟩ := hF
  rw [hn] at g1 g2 g3 g4
  have b0 : apM m s' f p t q n e (12 + 8 * s' + f).toNat = n + (q - t) := up1_eq
  have b1 : apM m s' f p t q n e 1 = m 1 := apM_ne s0' f0 p0 t0 q0 h1 g3 h2 (by unfold aSf; omega)
  have c4 : dC C s f p t q n e 4 (s * 8 + f).toNat = n + (q - t) := by
    unfold dC
    rw [fl2_out (by omega), up2_eq]
    omega
  have c5 : dC C s f p t q n e 5 = C 5 := by
    unfold dC
    rw [fl2_k (by omega), up2_k (by omega), cp2_k (by omega)]

  have rA : ∀ i : Int, 0 ≤ i → i < p → apM m s' f p t q n e (21004 + (320 * s' + 40 * f + i)).toNat = m (21004 + (320 * s' + 40 * f + i)).toNat ∧ apM m s' f p t q n e (524 + (320 * s' + 40 * f + i)).toNat = m (524 + (320 * s' + 40 * f + i)).toNat ∧ dC C s f p t q n e 3 ((s * 8 + f) * 24 + i).toNat = C 3 ((s * 8 + f) * 24 + i).toNat := fun i i0 i1 => by
    unfold apM dC
    exact ⟨by rw [up1_ne (by omega), fl1_out (by omega), fl1_out (by omega), fl1_out (by omega), fl1_out (by omega)], by rw [up1_ne (by omega), fl1_out (by omega), fl1_out (by omega), fl1_out (by omega), fl1_out (by omega)], by rw [fl2_out (by omega), up2_ne (by omega), cp2_out (by omega)]⟩
  have rB : ∀ i : Int, 0 ≤ i → i < q → apM m s' f p t q n e (21004 + (320 * s' + 40 * f + (p + i))).toNat = m (46164 + 6 * e + i).toNat ∧ apM m s' f p t q n e (524 + (320 * s' + 40 * f + (p + i))).toNat = m (47604 + 6 * e + i).toNat ∧ dC C s f p t q n e 3 ((s * 8 + f) * 24 + (p + i)).toNat = C 37 (6 * e + i).toNat := fun i i0 i1 => by
    unfold apM dC
    refine ⟨?_, ?_, ?_⟩
    · rw [up1_ne (by omega), fl1_out (by omega), fl1_in (by omega) (by omega), show ((((21004 + (320 * s' + 40 * f + (p + i))).toNat - (21004 + (320 * s' + 40 * f + p)).toNat : Nat)) : Int) = i by omega]
    · rw [up1_ne (by omega), fl1_in (by omega) (by omega), show ((((524 + (320 * s' + 40 * f + (p + i))).toNat - (524 + (320 * s' + 40 * f + p)).toNat : Nat)) : Int) = i by omega]
    · rw [fl2_in rfl (by omega) (by omega), show (((((s * 8 + f) * 24 + (p + i)).toNat - ((s * 8 + f) * 24 + p).toNat : Nat)) : Int) = i by omega]
  have rD : ∀ i : Int, 0 ≤ i → i < n - p - t → apM m s' f p t q n e (21004 + (320 * s' + 40 * f + (p + q + i))).toNat = m (21004 + (320 * s' + 40 * f + (p + t + i))).toNat ∧ apM m s' f p t q n e (524 + (320 * s' + 40 * f + (p + q + i))).toNat = m (524 + (320 * s' + 40 * f + (p + t + i))).toNat ∧ dC C s f p t q n e 3 ((s * 8 + f) * 24 + (p + q + i)).toNat = C 3 ((s * 8 + f) * 24 + (p + t + i)).toNat := fun i i0 i1 => by
    unfold apM dC
    refine ⟨?_, ?_, ?_⟩
    · rw [up1_ne (by omega), fl1_out (by omega), fl1_out (by omega), fl1_out (by omega), fl1_in (by omega) (by omega), show ((((21004 + (320 * s' + 40 * f + (p + q + i))).toNat - (21004 + (320 * s' + 40 * f + (p + q))).toNat : Nat)) : Int) = i by omega]
    · rw [up1_ne (by omega), fl1_out (by omega), fl1_out (by omega), fl1_in (by omega) (by omega), show ((((524 + (320 * s' + 40 * f + (p + q + i))).toNat - (524 + (320 * s' + 40 * f + (p + q))).toNat : Nat)) : Int) = i by omega]
    · rw [fl2_out (by omega), up2_ne (by omega), cp2_in rfl (by omega) (by omega), show ((s * 8 + f) * 24 + p + t).toNat + (((s * 8 + f) * 24 + (p + q + i)).toNat - ((s * 8 + f) * 24 + p + q).toNat) = ((s * 8 + f) * 24 + (p + t + i)).toNat by omega]
  generalize apM m s' f p t q n e = m' at *
  generalize dC C s f p t q n e = C' at *
  refine ⟨?_, fun ρ hL hE => ?_⟩
  · unfold yF
    rw [b0, b1, c4, c5]
    refine ⟨rfl, by omega, by omega, fun i i0 i1 => ?_⟩
    by_cases z1 : i < p
    · obtain ⟨x1, x2, x3⟩ := rA i i0 z1
      rw [x1, x2, x3]
      exact g4 i i0 (by omega)
    · by_cases z2 : i < p + q
      · obtain ⟨x1, x2, x3⟩ := rB (i - p) (by omega) (by omega)
        rw [show p + (i - p) = i by omega] at x1 x2 x3
        rw [x1, x2, x3]
        exact hP (i - p) (by omega) (by omega)
      · obtain ⟨x1, x2, x3⟩ := rD (i - p - q) (by omega) (by omega)
        rw [show p + q + (i - p - q) = i by omega] at x1 x2 x3
        rw [x1, x2, x3]
        exact g4 (p + t + (i - p - q)) (by omega) (by omega)
  · obtain ⟨c1, c2, c3⟩ := chain3_inv hE
    unfold fiL at hL ⊢
    rw [b0]
    have old : ∀ i j : Int, 0 ≤ i → i < j → j < n → ρ (m (21004 + (320 * s' + 40 * f + i)).toNat) < ρ (m (21004 + (320 * s' + 40 * f + j)).toNat) := fun i j i0 ij j1 => fi_lt hL i0 ij (by rw [hn]; exact j1)
    have put : ∀ i : Int, 0 ≤ i → i < q → m (46164 + 6 * e + i).toNat ∈ mkL m (46164 + 6 * e) q := fun i i0 i1 => List.mem_of_getElem? (i := i.toNat) (by rw [mkL_get (by omega), show (i.toNat : Int) = i by omega])
    have lo : ∀ i k : Int, 0 ≤ i → i < p → 0 ≤ k → k < q → ρ (m (21004 + (320 * s' + 40 * f + i)).toNat) < ρ (m (46164 + 6 * e + k).toNat) := fun i k i0 i1 k0 k1 => by
      rw [mkS_in (by omega) (by rw [hn]; omega)] at h3
      have ne : ah ≠ 0 := by have := (g4 (p - 1) (by omega) (by omega)).2.1; omega
      have z := c2 ne _ (put k k0 k1)
      rw [← h3] at z
      by_cases ei : i = p - 1
      · rw [ei]; exact z
      · have := old i (p - 1) i0 (by omega) (by omega)
        omega
    have hi : ∀ k j : Int, 0 ≤ k → k < q → p + t ≤ j → j < n → ρ (m (46164 + 6 * e + k).toNat) < ρ (m (21004 + (320 * s' + 40 * f + j)).toNat) := fun k j k0 k1 j0 j1 => by
      rw [mkS_in (by omega) (by rw [hn]; omega)] at h4
      have ne : bh ≠ 0 := by have := (g4 (p + t) (by omega) (by omega)).2.1; omega
      have z := c3 ne _ (put k k0 k1)
      rw [← h4] at z
      by_cases ei : j = p + t
      · rw [ei]; exact z
      · have := old (p + t) j (by omega) (by omega) j1
        omega
    have pu : ∀ i j : Int, 0 ≤ i → i < j → j < q → ρ (m (46164 + 6 * e + i).toNat) < ρ (m (46164 + 6 * e + j).toNat) := fun i j i0 ij j1 => chain_lt (i := i.toNat) (j := j.toNat) c1 (by rw [mkL_get (by omega), show (i.toNat : Int) = i by omega]) (by rw [mkL_get (by omega), show (j.toNat : Int) = j by omega]) (by omega)
    refine chain_mk fun i j i0 ij j1 => ?_
    have ix : ∀ i : Int, 21004 + (320 * s' + 40 * f) + i = 21004 + (320 * s' + 40 * f + i) := fun i => by omega
    rw [ix, ix]
    by_cases zi1 : i < p
    · rw [(rA i i0 zi1).1]
      by_cases zj1 : j < p
      · rw [(rA j (by omega) zj1).1]
        exact old i j i0 ij (by omega)
      · by_cases zj2 : j < p + q
        · have x := (rB (j - p) (by omega) (by omega)).1
          rw [show p + (j - p) = j by omega] at x
          rw [x]
          exact lo i (j - p) i0 zi1 (by omega) (by omega)
        · have x := (rD (j - p - q) (by omega) (by omega)).1
          rw [show p + q + (j - p - q) = j by omega] at x
          rw [x]
          exact old i (p + t + (j - p - q)) i0 (by omega) (by omega)
    · by_cases zi2 : i < p + q
      · have x := (rB (i - p) (by omega) (by omega)).1
        rw [show p + (i - p) = i by omega] at x
        rw [x]
        by_cases zj2 : j < p + q
        · have y := (rB (j - p) (by omega) (by omega)).1
          rw [show p + (j - p) = j by omega] at y
          rw [y]
          exact pu (i - p) (j - p) (by omega) (by omega) (by omega)
        · have y := (rD (j - p - q) (by omega) (by omega)).1
          rw [show p + q + (j - p - q) = j by omega] at y
          rw [y]
          exact hi (i - p) (p + t + (j - p - q)) (by omega) (by omega) (by omega) (by omega)
      · have x := (rD (i - p - q) (by omega) (by omega)).1
        rw [show p + q + (i - p - q) = i by omega] at x
        have y := (rD (j - p - q) (by omega) (by omega)).1
        rw [show p + q + (j - p - q) = j by omega] at y
        rw [x, y]
        exact old (p + t + (i - p - q)) (p + t + (j - p - q)) (by omega) (by omega) (by omega)
end

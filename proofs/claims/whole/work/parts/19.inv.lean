/-! what the class's cells (C) and the reference's row (m) hold, between two calls -/
def tOK (k a b q : Int) : Prop := 0 ≤ k ∧ k ≤ 4 ∧ 0 ≤ a ∧ a ≤ 31 ∧ (k ≠ 1 → a ≤ 7) ∧ (k = 0 → 1 ≤ b) ∧ 0 ≤ q ∧ q ≤ 999
/-- tests -/
def yT (C : xM) (m : Nat → Int) : Prop := (0 ≤ m 6 ∧ m 6 ≤ 24 ∧ C 59 5 = m 6) ∧ (C 59 6 = m 3 ∧ C 59 7 = m 4 ∧ 1 ≤ m 4 ∧ m 4 ≤ m 3 ∧ m 3 ≤ 9) ∧ (C 59 8 = m 11 ∧ C 59 9 = m 2) ∧
  ∀ t : Int, 0 ≤ t → t < m 6 → C 61 t.toNat = m (41484 + t).toNat ∧ C 63 t.toNat = m (41508 + t).toNat ∧ C 65 t.toNat = m (41532 + t).toNat ∧ C 67 t.toNat = m (41556 + t).toNat ∧ C 69 t.toNat = m (41580 + t).toNat ∧ tOK (m (41484 + t).toNat) (m (41508 + t).toNat) (m (41532 + t).toNat) (m (41580 + t).toNat)
/-- the size of a batch -/
def yL (C : xM) (m : Nat → Int) : Prop := C 1 6 = m 5 ∧ 1 ≤ m 5 ∧ m 5 ≤ 8
/-- the log -/
def yG (C : xM) (m : Nat → Int) : Prop := 0 ≤ m 10 ∧ m 10 ≤ 600 ∧ C 54 2 = m 10 ∧ ∀ i : Int, 0 ≤ i → i < 4 * m 10 → C 56 i.toNat = m (49296 + i).toNat ∧ C 58 i.toNat = m (51696 + i).toNat
/-- changes, but their edits -/
def yA (C : xM) (m : Nat → Int) : Prop := 0 ≤ m 7 ∧ m 7 ≤ 60 ∧ C 6 9 = m 7 ∧
  ∀ c : Int, 0 ≤ c → c < m 7 → (C 8 c.toNat = m (41604 + c).toNat ∧ C 10 c.toNat = m (41724 + c).toNat ∧ C 12 c.toNat = m (41664 + c).toNat ∧ C 14 c.toNat = m (41784 + c).toNat ∧ C 16 c.toNat = m (41844 + c).toNat ∧ C 18 c.toNat = m (41964 + c).toNat ∧ C 20 c.toNat = m (42024 + c).toNat ∧ C 22 c.toNat = m (41904 + c).toNat) ∧
    (0 ≤ m (41904 + c).toNat ∧ m (41904 + c).toNat ≤ 4) ∧ (m (42024 + c).toNat = 0 ∨ m (42024 + c).toNat = 1) ∧ (m (41964 + c).toNat = -1 ∨ (0 ≤ m (41964 + c).toNat ∧ m (41964 + c).toNat < m 7 ∧ m (41964 + c).toNat ≠ c ∧ m (41964 + m (41964 + c).toNat).toNat = c))
/-- an edit's lines, taken or put: marks, and the values that they have -/
def yEl (C : xM) (m : Nat → Int) (a : Nat) (am av e n : Int) : Prop := ∀ i : Int, 0 ≤ i → i < n → C a (6 * e + i).toNat = m (am + 6 * e + i).toNat ∧ 1 ≤ m (am + 6 * e + i).toNat ∧ m (am + 6 * e + i).toNat ≤ m 1 ∧ C 5 (m (am + 6 * e + i).toNat).toNat = m (av + 6 * e + i).toNat ∧ 0 ≤ m (av + 6 * e + i).toNat ∧ m (av + 6 * e + i).toNat ≤ 9999
def yEe (C : xM) (m : Nat → Int) (e : Int) : Prop :=
  (C 25 e.toNat = m (42084 + e).toNat ∧ C 27 e.toNat = m (42804 + e).toNat ∧ C 29 e.toNat = m (43044 + e).toNat ∧ C 31 e.toNat = m (42324 + e).toNat ∧ C 33 e.toNat = m (42564 + e).toNat) ∧
  (0 ≤ m (42084 + e).toNat ∧ m (42084 + e).toNat ≤ 7 ∧ 0 ≤ m (42324 + e).toNat ∧ m (42324 + e).toNat ≤ 6 ∧ 0 ≤ m (42564 + e).toNat ∧ m (42564 + e).toNat ≤ 6 ∧ 0 ≤ m (42804 + e).toNat ∧ m (42804 + e).toNat ≤ m 1 ∧ 0 ≤ m (43044 + e).toNat ∧ m (43044 + e).toNat ≤ m 1) ∧
  yEl C m 35 43284 44724 e (m (42324 + e).toNat) ∧ yEl C m 37 46164 47604 e (m (42564 + e).toNat)
def yE (C : xM) (m : Nat → Int) : Prop := ∀ c : Int, 0 ≤ c → c < m 7 → (∀ k : Int, 0 ≤ k → k < m (41904 + c).toNat → yEe C m (4 * c + k)) ∧
  ∀ k k' : Int, 0 ≤ k → k < m (41904 + c).toNat → 0 ≤ k' → k' < m (41904 + c).toNat → m (42084 + (4 * c + k)).toNat = m (42084 + (4 * c + k')).toNat → k = k'
/-- a file in a slot of the class, in a state of the reference -/
def yF (C : xM) (m : Nat → Int) (s s' f : Int) : Prop := C 4 (s * 8 + f).toNat = m (12 + 8 * s' + f).toNat ∧ 0 ≤ m (12 + 8 * s' + f).toNat ∧ m (12 + 8 * s' + f).toNat ≤ 24 ∧
  ∀ i : Int, 0 ≤ i → i < m (12 + 8 * s' + f).toNat → C 3 ((s * 8 + f) * 24 + i).toNat = m (21004 + (320 * s' + 40 * f + i)).toNat ∧ 1 ≤ m (21004 + (320 * s' + 40 * f + i)).toNat ∧ m (21004 + (320 * s' + 40 * f + i)).toNat ≤ m 1 ∧ C 5 (m (21004 + (320 * s' + 40 * f + i)).toNat).toNat = m (524 + (320 * s' + 40 * f + i)).toNat ∧ 0 ≤ m (524 + (320 * s' + 40 * f + i)).toNat ∧ m (524 + (320 * s' + 40 * f + i)).toNat ≤ 9999
def yB (C : xM) (m : Nat → Int) : Prop := (0 ≤ m 0 ∧ m 0 ≤ 60 ∧ C 2 3 = m 0) ∧ (0 ≤ m 1 ∧ m 1 ≤ 1152 ∧ C 2 4 = m 1) ∧ ∀ s f : Int, 0 ≤ s → s ≤ m 0 → 0 ≤ f → f < 8 → yF C m s s f
/-- the line -/
def yW (C : xM) (m : Nat → Int) : Prop := 0 ≤ m 8 ∧ m 8 ≤ 60 ∧ C 38 1 = m 8 ∧ (∀ k : Int, 0 ≤ k → k < m 8 → C 40 k.toNat = m (49044 + k).toNat ∧ 0 ≤ m (49044 + k).toNat ∧ m (49044 + k).toNat < m 7 ∧ m (41724 + m (49044 + k).toNat).toNat = 1) ∧
  (∀ j k : Int, 0 ≤ j → j < m 8 → 0 ≤ k → k < m 8 → m (49044 + j).toNat = m (49044 + k).toNat → j = k) ∧ (∀ c : Int, 0 ≤ c → c < m 7 → m (41724 + c).toNat = 1 → ∃ k : Int, 0 ≤ k ∧ k < m 8 ∧ m (49044 + k).toNat = c)
/-- the units of a row, of the rows 0 .. n - 1, the topmost one first -/
def rowU (m : Nat → Int) (r : Nat) : List Int := (List.range (m (49104 + r)).toNat).map fun k => m (49168 + (8 * r + k))
def allU (m : Nat → Int) : Nat → List Int
  | 0 => []
  | n + 1 => rowU m n ++ allU m n
/-- the changes of units -/
def chU (m : Nat → Int) (us : List Int) : List Int := us.flatMap fun u => if m (41964 + u).toNat = -1 then [u] else [u, m (41964 + u).toNat]
/-- the rows of work -/
def yP (C : xM) (m : Nat → Int) : Prop := (0 ≤ m 9 ∧ m 9 ≤ 8 ∧ C 41 7 = m 9) ∧ C 41 6 = (allU m (m 9).toNat).length ∧ (allU m (m 9).toNat).length ≤ 8 ∧
  (∀ r : Int, 0 ≤ r → r < m 9 → C 47 r.toNat = m (49104 + r).toNat ∧ 1 ≤ m (49104 + r).toNat ∧ C 49 r.toNat = m (49120 + r).toNat ∧ C 51 r.toNat = m (49152 + r).toNat ∧ C 53 r.toNat = m (49136 + r).toNat ∧ (m (49120 + r).toNat = 0 ∨ m (49120 + r).toNat = 1)) ∧
  (∀ i : Nat, ∀ u : Int, (allU m (m 9).toNat)[i]? = some u → C 43 i = u ∧ C 45 i = m (41964 + u).toNat ∧ 0 ≤ u ∧ u < m 7 ∧ m (41724 + u).toNat ≠ 0) ∧ (chU m (allU m (m 9).toNat)).Nodup
/-- of every file an order of marks: lines stand in it, in states and in edits -/
def ychain (ρ : Int → Int) (l : List Int) : Prop := l.Pairwise fun a b => ρ a < ρ b
def mkL (m : Nat → Int) (a n : Int) : List Int := (List.range n.toNat).map fun k : Nat => m (a + (k : Int)).toNat
def opt0 (x : Int) : List Int := if x = 0 then [] else [x]
def yO (m : Nat → Int) : Prop := ∃ ρ : Int → Int → Int, (∀ s f : Int, 0 ≤ s → s ≤ m 0 → 0 ≤ f → f < 8 → ychain (ρ f) (mkL m (21004 + (320 * s + 40 * f)) (m (12 + 8 * s + f).toNat))) ∧
  ∀ c k : Int, 0 ≤ c → c < m 7 → 0 ≤ k → k < m (41904 + c).toNat → ychain (ρ (m (42084 + (4 * c + k)).toNat)) (opt0 (m (42804 + (4 * c + k)).toNat) ++ mkL m (43284 + 6 * (4 * c + k)) (m (42324 + (4 * c + k)).toNat) ++ opt0 (m (43044 + (4 * c + k)).toNat)) ∧
    ychain (ρ (m (42084 + (4 * c + k)).toNat)) (opt0 (m (42804 + (4 * c + k)).toNat) ++ mkL m (46164 + 6 * (4 * c + k)) (m (42564 + (4 * c + k)).toNat) ++ opt0 (m (43044 + (4 * c + k)).toNat))
def sumN (f : Nat → Int) : Nat → Int
  | 0 => 0
  | n + 1 => sumN f n + f n
/-- how many marks there can be; which states there are -/
def yM (m : Nat → Int) : Prop := (m 7 = 0 → m 1 = sumN (fun f => m (12 + f)) 8) ∧ m 1 ≤ 192 + 4 * sumN (fun c => m (41904 + c)) (m 7).toNat
def yN (m : Nat → Int) : Prop := (∀ s : Int, 1 ≤ s → s ≤ m 0 → ∃ c : Int, 0 ≤ c ∧ c < m 7 ∧ m (41724 + c).toNat = 4 ∧ m (41784 + c).toNat = s) ∧ ∀ c : Int, 0 ≤ c → c < m 7 → (m (41724 + c).toNat = 0 ∨ m (41724 + c).toNat = 1) → m (41844 + c).toNat = -1
def yK (C : xM) (m : Nat → Int) : Prop := yT C m ∧ yL C m ∧ yG C m ∧ yA C m ∧ yE C m ∧ yB C m ∧ yW C m ∧ yP C m ∧ yO m ∧ yM m ∧ yN m
def hv (μ : xM) (b : Nat) : xM := fun k => μ (k + b)
def yAll (μ : xM) : Prop := yK μ (μ 140) ∧ ((μ 0 2 = 0 ∧ μ 139 2 = 0) ∨ (μ 0 2 = 1 ∧ μ 139 2 = 1 ∧ yK (hv μ 69) (μ 141)))
-- what each part looks at
def dT (k i : Nat) : Prop := (k = 59 ∧ 5 ≤ i ∧ i ≤ 9) ∨ ((k = 61 ∨ k = 63 ∨ k = 65 ∨ k = 67 ∨ k = 69) ∧ i < 24)
def aT (i : Nat) : Prop := i = 2 ∨ i = 3 ∨ i = 4 ∨ i = 6 ∨ i = 11 ∨ (41484 ≤ i ∧ i < 41604)
theorem yT_fr {C C' : xM} {m m' : Nat → Int} (h : yT C m) (hC : ∀ k i, dT k i → C' k i = C k i) (hm : ∀ i, aT i → m' i = m i) : yT C' m' := by
  have m2 := hm 2 (by unfold aT; omega)
  have m3 := hm 3 (by unfold aT; omega)
  have m4 := hm 4 (by unfold aT; omega)
  have m6 := hm 6 (by unfold aT; omega)
  have m11 := hm 11 (by unfold aT; omega)
  unfold yT at h ⊢
  rw [m2, m3, m4, m6, m11, hC 59 5 (by unfold dT; omega), hC 59 6 (by unfold dT; omega), hC 59 7 (by unfold dT; omega), hC 59 8 (by unfold dT; omega), hC 59 9 (by unfold dT; omega)]
  refine ⟨h.1, h.2.1, h.2.2.1, fun t h0 h1 => ?_⟩
  have h6 := h.1
  have h2 := h.2.2.2 t h0 h1
  rw [hm (41484 + t).toNat (by unfold aT; omega), hm (41508 + t).toNat (by unfold aT; omega), hm (41532 + t).toNat (by unfold aT; omega), hm (41556 + t).toNat (by unfold aT; omega), hm (41580 + t).toNat (by unfold aT; omega), hC 61 t.toNat (by unfold dT; omega), hC 63 t.toNat (by unfold dT; omega), hC 65 t.toNat (by unfold dT; omega), hC 67 t.toNat (by unfold dT; omega), hC 69 t.toNat (by unfold dT; omega)]
  exact h2
theorem yL_fr {C C' : xM} {m m' : Nat → Int} (h : yL C m) (hC : C' 1 6 = C 1 6) (hm : m' 5 = m 5) : yL C' m' := by
  unfold yL at h ⊢
  rw [hC, hm]
  exact h
theorem yG_fr {C C' : xM} {m m' : Nat → Int} (h : yG C m) (hC : ∀ k i : Nat, ((k = 54 ∧ i = 2) ∨ ((k = 56 ∨ k = 58) ∧ i < 2400)) → C' k i = C k i) (hm : ∀ i, (i = 10 ∨ (49296 ≤ i ∧ i < 54096)) → m' i = m i) : yG C' m' := by
  unfold yG at h ⊢
  rw [hm 10 (by omega), hC 54 2 (by omega)]
  refine ⟨h.1, h.2.1, h.2.2.1, fun i h0 h1 => ?_⟩
  have h5 := h.2.1
  rw [hm (49296 + i).toNat (by omega), hm (51696 + i).toNat (by omega), hC 56 i.toNat (by omega), hC 58 i.toNat (by omega)]
  exact h.2.2.2 i h0 h1
def dA (n : Int) (k i : Nat) : Prop := (k = 6 ∧ i = 9) ∨ ((k = 8 ∨ k = 10 ∨ k = 12 ∨ k = 14 ∨ k = 16 ∨ k = 18 ∨ k = 20 ∨ k = 22) ∧ (i : Int) < n)
def aA (n : Int) (i : Nat) : Prop := i = 7 ∨ (41604 ≤ i ∧ (i : Int) < 41604 + n) ∨ (41664 ≤ i ∧ (i : Int) < 41664 + n) ∨ (41724 ≤ i ∧ (i : Int) < 41724 + n) ∨ (41784 ≤ i ∧ (i : Int) < 41784 + n) ∨ (41844 ≤ i ∧ (i : Int) < 41844 + n) ∨ (41904 ≤ i ∧ (i : Int) < 41904 + n) ∨ (41964 ≤ i ∧ (i : Int) < 41964 + n) ∨ (42024 ≤ i ∧ (i : Int) < 42024 + n)
/-- of one change -/
def yAc (C : xM) (m : Nat → Int) (c : Int) : Prop := (C 8 c.toNat = m (41604 + c).toNat ∧ C 10 c.toNat = m (41724 + c).toNat ∧ C 12 c.toNat = m (41664 + c).toNat ∧ C 14 c.toNat = m (41784 + c).toNat ∧ C 16 c.toNat = m (41844 + c).toNat ∧ C 18 c.toNat = m (41964 + c).toNat ∧ C 20 c.toNat = m (42024 + c).toNat ∧ C 22 c.toNat = m (41904 + c).toNat) ∧
    (0 ≤ m (41904 + c).toNat ∧ m (41904 + c).toNat ≤ 4) ∧ (m (42024 + c).toNat = 0 ∨ m (42024 + c).toNat = 1) ∧ (m (41964 + c).toNat = -1 ∨ (0 ≤ m (41964 + c).toNat ∧ m (41964 + c).toNat < m 7 ∧ m (41964 + c).toNat ≠ c ∧ m (41964 + m (41964 + c).toNat).toNat = c))
theorem yAc_fr {C C' : xM} {m m' : Nat → Int} {c : Int} (h : yAc C m c) (hC : ∀ k, (k = 8 ∨ k = 10 ∨ k = 12 ∨ k = 14 ∨ k = 16 ∨ k = 18 ∨ k = 20 ∨ k = 22) → C' k c.toNat = C k c.toNat) (hm : ∀ a : Int, (a = 41604 ∨ a = 41664 ∨ a = 41724 ∨ a = 41784 ∨ a = 41844 ∨ a = 41904 ∨ a = 41964 ∨ a = 42024) → m' (a + c).toNat = m (a + c).toNat)
    (h7 : m 7 ≤ m' 7) (hp : ∀ d : Int, 0 ≤ d → d < m 7 → m' (41964 + d).toNat = m (41964 + d).toNat) : yAc C' m' c := by
  unfold yAc at h ⊢
  have q1 := hm 41604 (by omega)
  have q2 := hm 41664 (by omega)
  have q3 := hm 41724 (by omega)
  have q4 := hm 41784 (by omega)
  have q5 := hm 41844 (by omega)
  have q6 := hm 41904 (by omega)
  have q7 := hm 41964 (by omega)
  have q8 := hm 42024 (by omega)
  rw [q1, q2, q3, q4, q5, q6, q7, q8, hC 8 (by omega), hC 10 (by omega), hC 12 (by omega), hC 14 (by omega), hC 16 (by omega), hC 18 (by omega), hC 20 (by omega), hC 22 (by omega)]
  refine ⟨h.1, h.2.1, h.2.2.1, ?_⟩
  rcases h.2.2.2 with e | ⟨e1, e2, e3, e4⟩
  · exact Or.inl e
  · right
    rw [hp _ e1 e2]
    exact ⟨e1, by omega, e3, e4⟩
theorem yA_fr {C C' : xM} {m m' : Nat → Int} (h : yA C m) (hC : ∀ k i, dA (m 7) k i → C' k i = C k i) (hm : ∀ i, aA (m 7) i → m' i = m i) : yA C' m' := by
  have h7 := hm 7 (by unfold aA; omega)
  unfold yA at h ⊢
  rw [h7, hC 6 9 (by unfold dA; omega)]
  refine ⟨h.1, h.2.1, h.2.2.1, fun c h0 h1 => ?_⟩
  have g := yAc_fr (C' := C') (m' := m') (h.2.2.2 c h0 h1) (fun k hk => hC k _ (by unfold dA; omega)) (fun a ha => hm _ (by unfold aA; omega)) (by omega) (fun d d0 d1 => hm _ (by unfold aA; omega))
  unfold yAc at g
  rw [h7] at g
  exact g
/-- the cells of an edit -/
def dEe (e : Int) (k i : Nat) : Prop := ((k = 25 ∨ k = 27 ∨ k = 29 ∨ k = 31 ∨ k = 33) ∧ (i : Int) = e) ∨ ((k = 35 ∨ k = 37) ∧ 6 * e ≤ i ∧ (i : Int) < 6 * e + 6)
def aEe (e : Int) (i : Nat) : Prop := ((i : Int) = 42084 + e ∨ (i : Int) = 42324 + e ∨ (i : Int) = 42564 + e ∨ (i : Int) = 42804 + e ∨ (i : Int) = 43044 + e) ∨ (43284 + 6 * e ≤ i ∧ (i : Int) < 43284 + 6 * e + 6) ∨ (44724 + 6 * e ≤ i ∧ (i : Int) < 44724 + 6 * e + 6) ∨ (46164 + 6 * e ≤ i ∧ (i : Int) < 46164 + 6 * e + 6) ∨ (47604 + 6 * e ≤ i ∧ (i : Int) < 47604 + 6 * e + 6)
def dE (n : Int) (k i : Nat) : Prop := ((k = 25 ∨ k = 27 ∨ k = 29 ∨ k = 31 ∨ k = 33) ∧ (i : Int) < 4 * n) ∨ ((k = 35 ∨ k = 37) ∧ (i : Int) < 24 * n)
def aE (n : Int) (i : Nat) : Prop := i = 7 ∨ (41904 ≤ i ∧ (i : Int) < 41904 + n) ∨ (42084 ≤ i ∧ (i : Int) < 42084 + 4 * n) ∨ (42324 ≤ i ∧ (i : Int) < 42324 + 4 * n) ∨ (42564 ≤ i ∧ (i : Int) < 42564 + 4 * n) ∨ (42804 ≤ i ∧ (i : Int) < 42804 + 4 * n) ∨ (43044 ≤ i ∧ (i : Int) < 43044 + 4 * n) ∨
  (43284 ≤ i ∧ (i : Int) < 43284 + 24 * n) ∨ (44724 ≤ i ∧ (i : Int) < 44724 + 24 * n) ∨ (46164 ≤ i ∧ (i : Int) < 46164 + 24 * n) ∨ (47604 ≤ i ∧ (i : Int) < 47604 + 24 * n)
theorem yEl_fr {C C' : xM} {m m' : Nat → Int} {a : Nat} {am av e n : Int} (h : yEl C m a am av e n) (hC : ∀ i : Nat, 6 * e ≤ i → (i : Int) < 6 * e + 6 → C' a i = C a i) (hv : ∀ i : Nat, 1 ≤ i → i ≤ (m 1).toNat → C' 5 i = C 5 i) (h1 : m 1 ≤ m' 1) (hm : ∀ i : Nat, ((am + 6 * e ≤ i ∧ (i : Int) < am + 6 * e + 6) ∨ (av + 6 * e ≤ i ∧ (i : Int) < av + 6 * e + 6)) → m' i = m i) (he : 0 ≤ e) (hn : n ≤ 6) (ham : 43284 ≤ am ∧ am ≤ 46164) (hav : 44724 ≤ av ∧ av ≤ 47604) : yEl C' m' a am av e n := by
  intro i h0 hi
  have h2 := h i h0 hi
  rw [hC (6 * e + i).toNat (by omega) (by omega), hm (am + 6 * e + i).toNat (by omega), hm (av + 6 * e + i).toNat (by omega), hv (m (am + 6 * e + i).toNat).toNat (by omega) (by omega)]
  exact ⟨h2.1, h2.2.1, by omega, h2.2.2.2.1, h2.2.2.2.2⟩
theorem yEe_fr {C C' : xM} {m m' : Nat → Int} {e : Int} (h : yEe C m e) (hC : ∀ k i, dEe e k i → C' k i = C k i) (hv : ∀ i : Nat, 1 ≤ i → i ≤ (m 1).toNat → C' 5 i = C 5 i) (h1 : m 1 ≤ m' 1) (hm : ∀ i : Nat, aEe e i → m' i = m i) (he : 0 ≤ e) : yEe C' m' e := by
  unfold yEe at h ⊢
  obtain ⟨g1, g2, g3, g4⟩ := h
  rw [hm (42084 + e).toNat (by unfold aEe; omega), hm (42804 + e).toNat (by unfold aEe; omega), hm (43044 + e).toNat (by unfold aEe; omega), hm (42324 + e).toNat (by unfold aEe; omega), hm (42564 + e).toNat (by unfold aEe; omega),
    hC 25 e.toNat (by unfold dEe; omega), hC 27 e.toNat (by unfold dEe; omega), hC 29 e.toNat (by unfold dEe; omega), hC 31 e.toNat (by unfold dEe; omega), hC 33 e.toNat (by unfold dEe; omega)]
  exact ⟨g1, ⟨g2.1, g2.2.1, g2.2.2.1, g2.2.2.2.1, g2.2.2.2.2.1, g2.2.2.2.2.2.1, g2.2.2.2.2.2.2.1, by omega, g2.2.2.2.2.2.2.2.2.1, by omega⟩,
    yEl_fr g3 (fun i i0 i1 => hC 35 i (by unfold dEe; omega)) hv h1 (fun i hi => hm i (by unfold aEe; omega)) he g2.2.2.2.1 (by omega) (by omega), yEl_fr g4 (fun i i0 i1 => hC 37 i (by unfold dEe; omega)) hv h1 (fun i hi => hm i (by unfold aEe; omega)) he g2.2.2.2.2.2.1 (by omega) (by omega)⟩
def yEc (C : xM) (m : Nat → Int) (c : Int) : Prop := (∀ k : Int, 0 ≤ k → k < m (41904 + c).toNat → yEe C m (4 * c + k)) ∧
  ∀ k k' : Int, 0 ≤ k → k < m (41904 + c).toNat → 0 ≤ k' → k' < m (41904 + c).toNat → m (42084 + (4 * c + k)).toNat = m (42084 + (4 * c + k')).toNat → k = k'
theorem yEc_fr {C C' : xM} {m m' : Nat → Int} {n c : Int} (h : yEc C m c) (c0 : 0 ≤ c) (c1 : c < n) (n60 : n ≤ 60) (h4 : m (41904 + c).toNat ≤ 4) (hC : ∀ k i, dE n k i → C' k i = C k i) (hv : ∀ i : Nat, 1 ≤ i → i ≤ (m 1).toNat → C' 5 i = C 5 i) (h1 : m 1 ≤ m' 1) (hn : m' (41904 + c).toNat = m (41904 + c).toNat) (hm : ∀ i, aE n i → i ≠ 7 → ¬ (41904 ≤ i ∧ (i : Int) < 41904 + n) → m' i = m i) : yEc C' m' c := by
  obtain ⟨g1, g2⟩ := h
  unfold yEc
  rw [hn]
  refine ⟨fun k k0 k1 => yEe_fr (g1 k k0 k1) (fun k' i hk => hC k' i (by unfold dEe at hk; unfold dE; omega)) hv h1 (fun i hi => ?_) (by omega), fun k k' k0 k1 k0' k1' e => ?_⟩
  · by_cases hin : 41904 ≤ i ∧ (i : Int) < 41904 + n
    · exact absurd hi (by unfold aEe; omega)
    · exact hm i (by unfold aEe at hi; unfold aE; omega) (by unfold aEe at hi; omega) hin
  · by_cases hin : 41904 ≤ (42084 + (4 * c + k)).toNat ∧ (((42084 + (4 * c + k)).toNat : Nat) : Int) < 41904 + n
    · omega
    · rw [hm (42084 + (4 * c + k)).toNat (by unfold aE; omega) (by omega) (by omega), hm (42084 + (4 * c + k')).toNat (by unfold aE; omega) (by omega) (by omega)] at e
      exact g2 k k' k0 k1 k0' k1' e
theorem yE_fr {C C' : xM} {m m' : Nat → Int} (h : yE C m) (hA : yA C m) (hC : ∀ k i, dE (m 7) k i → C' k i = C k i) (hv : ∀ i : Nat, 1 ≤ i → i ≤ (m 1).toNat → C' 5 i = C 5 i) (h1 : m 1 ≤ m' 1) (hm : ∀ i, aE (m 7) i → m' i = m i) : yE C' m' := by
  intro c h0 hc
  have h7 := hA.2.1
  rw [hm 7 (by unfold aE; omega)] at hc
  have hne := (hA.2.2.2 c h0 hc).2.1
  exact yEc_fr (n := m 7) (h c h0 hc) h0 hc h7 hne.2 hC hv h1 (hm _ (by unfold aE; omega)) (fun i hi _ _ => hm i hi)
/-- a slot's own cells, in the class and in the reference -/
def dS (s : Int) (k i : Nat) : Prop := (k = 4 ∧ s * 8 ≤ i ∧ (i : Int) < s * 8 + 8) ∨ (k = 3 ∧ s * 192 ≤ i ∧ (i : Int) < s * 192 + 192)
def aS (s : Int) (i : Nat) : Prop := (12 + 8 * s ≤ i ∧ (i : Int) < 20 + 8 * s) ∨ (524 + 320 * s ≤ i ∧ (i : Int) < 844 + 320 * s) ∨ (21004 + 320 * s ≤ i ∧ (i : Int) < 21324 + 320 * s)
theorem yF_fr {C C' : xM} {m m' : Nat → Int} {s s' f : Int} (h : yF C m s s' f) (hC : ∀ k i, dS s k i → C' k i = C k i) (hv : ∀ i : Nat, 1 ≤ i → i ≤ (m 1).toNat → C' 5 i = C 5 i) (h1 : m 1 ≤ m' 1) (hm : ∀ i, aS s' i → m' i = m i) (hs : 0 ≤ s) (hs' : 0 ≤ s') (hf : 0 ≤ f ∧ f < 8) : yF C' m' s s' f := by
  unfold yF at h ⊢
  rw [hm (12 + 8 * s' + f).toNat (by unfold aS; omega), hC 4 (s * 8 + f).toNat (by unfold dS; omega)]
  refine ⟨h.1, h.2.1, h.2.2.1, fun i h0 hi => ?_⟩
  have h24 := h.2.2.1
  have h2 := h.2.2.2 i h0 hi
  rw [hC 3 ((s * 8 + f) * 24 + i).toNat (by unfold dS; omega), hm (21004 + (320 * s' + 40 * f + i)).toNat (by unfold aS; omega), hm (524 + (320 * s' + 40 * f + i)).toNat (by unfold aS; omega), hv (m (21004 + (320 * s' + 40 * f + i)).toNat).toNat (by omega) (by omega)]
  exact ⟨h2.1, h2.2.1, by omega, h2.2.2.2⟩
theorem yB_fr {C C' : xM} {m m' : Nat → Int} (h : yB C m) (hC2 : C' 2 3 = C 2 3 ∧ C' 2 4 = C 2 4) (hm0 : m' 0 = m 0 ∧ m' 1 = m 1) (hC : ∀ s : Int, 0 ≤ s → s ≤ m 0 → ∀ k i, dS s k i → C' k i = C k i) (hv : ∀ i : Nat, 1 ≤ i → i ≤ (m 1).toNat → C' 5 i = C 5 i) (hm : ∀ s : Int, 0 ≤ s → s ≤ m 0 → ∀ i, aS s i → m' i = m i) : yB C' m' := by
  unfold yB at h ⊢
  rw [hm0.1, hm0.2, hC2.1, hC2.2]
  exact ⟨h.1, h.2.1, fun s f s0 s1 f0 f1 => yF_fr (h.2.2 s f s0 s1 f0 f1) (hC s s0 s1) hv (by omega) (hm s s0 s1) s0 s0 ⟨f0, f1⟩⟩
theorem yW_fr {C C' : xM} {m m' : Nat → Int} (h : yW C m) (hA : 0 ≤ m 7 ∧ m 7 ≤ 60) (hC : ∀ k i : Nat, ((k = 38 ∧ i = 1) ∨ (k = 40 ∧ i < 60)) → C' k i = C k i) (hm : ∀ i : Nat, (i = 7 ∨ i = 8 ∨ (41724 ≤ i ∧ i < 41784) ∨ (49044 ≤ i ∧ i < 49104)) → m' i = m i) : yW C' m' := by
  obtain ⟨h1, h2, h3, h4, h5, h6⟩ := h
  unfold yW
  rw [hm 8 (by omega), hm 7 (by omega), hC 38 1 (by omega)]
  refine ⟨h1, h2, h3, fun k k0 k1 => ?_, fun j k j0 j1 k0 k1 e => ?_, fun c c0 c1 e => ?_⟩
  · obtain ⟨g1, g2, g3, g4⟩ := h4 k k0 k1
    rw [hm (49044 + k).toNat (by omega), hC 40 k.toNat (by omega), hm (41724 + m (49044 + k).toNat).toNat (by omega)]
    exact ⟨g1, g2, g3, g4⟩
  · rw [hm (49044 + j).toNat (by omega), hm (49044 + k).toNat (by omega)] at e
    exact h5 j k j0 j1 k0 k1 e
  · rw [hm (41724 + c).toNat (by omega)] at e
    obtain ⟨k, k0, k1, e2⟩ := h6 c c0 c1 e
    exact ⟨k, k0, k1, by rw [hm (49044 + k).toNat (by omega)]; exact e2⟩
theorem rowU_len (m : Nat → Int) (r : Nat) : (rowU m r).length = (m (49104 + r)).toNat := by unfold rowU; simp
theorem rowU_le {m : Nat → Int} : ∀ (n r : Nat), r < n → (m (49104 + r)).toNat ≤ (allU m n).length := by
  intro n
  induction n with
  | zero => intro r h; omega
  | succ n ih =>
    intro r h
    unfold allU
    rw [List.length_append, rowU_len]
    by_cases e : r = n
    · rw [e]; omega
    · have := ih r (by omega)
      omega
theorem rowU_fr {m m' : Nat → Int} {r : Nat} (h1 : m' (49104 + r) = m (49104 + r)) (h : ∀ k : Nat, k < (m (49104 + r)).toNat → m' (49168 + (8 * r + k)) = m (49168 + (8 * r + k))) : rowU m' r = rowU m r := by
  unfold rowU
  rw [h1]
  exact List.map_congr_left fun k hk => h k (List.mem_range.mp hk)
theorem allU_fr {m m' : Nat → Int} : ∀ (n : Nat), (∀ r : Nat, r < n → m' (49104 + r) = m (49104 + r) ∧ ∀ k : Nat, k < (m (49104 + r)).toNat → m' (49168 + (8 * r + k)) = m (49168 + (8 * r + k))) → allU m' n = allU m n := by
  intro n
  induction n with
  | zero => intro _; rfl
  | succ n ih =>
    intro h
    unfold allU
    rw [rowU_fr (h n (by omega)).1 (h n (by omega)).2, ih (fun r hr => h r (by omega))]
theorem chU_fr {m m' : Nat → Int} : ∀ (us : List Int), (∀ u ∈ us, m' (41964 + u).toNat = m (41964 + u).toNat) → chU m' us = chU m us := by
  intro us
  induction us with
  | nil => intro _; rfl
  | cons u us ih =>
    intro h
    unfold chU at ih ⊢
    rw [List.flatMap_cons, List.flatMap_cons, ih (fun u hu => h u (List.mem_cons_of_mem _ hu)), h u List.mem_cons_self]
theorem yP_fr {C C' : xM} {m m' : Nat → Int} (h : yP C m) (h7 : m 7 ≤ m' 7) (hC : ∀ k i : Nat, ((k = 41 ∧ (i = 6 ∨ i = 7)) ∨ ((k = 43 ∨ k = 45 ∨ k = 47 ∨ k = 49 ∨ k = 51 ∨ k = 53) ∧ i < 8)) → C' k i = C k i) (hm : ∀ i : Nat, (i = 9 ∨ (49104 ≤ i ∧ i < 49296)) → m' i = m i) (hp : ∀ u : Int, 0 ≤ u → u < m 7 → m (41724 + u).toNat ≠ 0 → m' (41964 + u).toNat = m (41964 + u).toNat) (hw : ∀ u : Int, 0 ≤ u → u < m 7 → m (41724 + u).toNat ≠ 0 → m' (41724 + u).toNat ≠ 0) : yP C' m' := by
  obtain ⟨h1, h2, h3, h4, h5, h6⟩ := h
  have hall : allU m' (m 9).toNat = allU m (m 9).toNat := allU_fr _ fun r hr => by
    have := rowU_le (m := m) _ r hr
    exact ⟨hm _ (by omega), fun k hk => hm _ (by omega)⟩
  have hus : ∀ u ∈ allU m (m 9).toNat, m' (41964 + u).toNat = m (41964 + u).toNat := fun u hu => by
    obtain ⟨i, hi⟩ := List.getElem?_of_mem hu
    have g := h5 i u hi
    exact hp u g.2.2.1 g.2.2.2.1 g.2.2.2.2
  unfold yP
  rw [hm 9 (by omega), hC 41 7 (by omega), hC 41 6 (by omega), hall, chU_fr _ hus]
  refine ⟨h1, h2, h3, fun r r0 r1 => ?_, fun i u hi => ?_, h6⟩
  · rw [hm (49104 + r).toNat (by omega), hm (49120 + r).toNat (by omega), hm (49152 + r).toNat (by omega), hm (49136 + r).toNat (by omega), hC 47 r.toNat (by omega), hC 49 r.toNat (by omega), hC 51 r.toNat (by omega), hC 53 r.toNat (by omega)]
    exact h4 r r0 r1
  · have hil := (List.getElem?_eq_some_iff.mp hi).1
    have g := h5 i u hi
    rw [hus u (List.mem_of_getElem? hi), hC 43 i (by omega), hC 45 i (by omega)]
    exact ⟨g.1, g.2.1, g.2.2.1, by omega, hw u g.2.2.1 g.2.2.2.1 g.2.2.2.2⟩
theorem mkL_fr {m m' : Nat → Int} {a n : Int} (h : ∀ k : Int, 0 ≤ k → k < n → m' (a + k).toNat = m (a + k).toNat) : mkL m' a n = mkL m a n := by
  unfold mkL
  exact List.map_congr_left fun k hk => h k (by omega) (by have := List.mem_range.mp hk; omega)
theorem sumN_fr {f g : Nat → Int} : ∀ n, (∀ k, k < n → f k = g k) → sumN f n = sumN g n := by
  intro n
  induction n with
  | zero => intro _; rfl
  | succ n ih =>
    intro h
    unfold sumN
    rw [ih (fun k hk => h k (by omega)), h n (by omega)]
theorem yN_fr {C : xM} {m m' : Nat → Int} (h : yN m) (hA : yA C m) (hm : ∀ i : Nat, (i = 0 ∨ i = 7 ∨ (41784 ≤ i ∧ i < 41904)) → m' i = m i) (hw : ∀ c : Int, 0 ≤ c → c < m 7 → m (41724 + c).toNat = 4 → m' (41724 + c).toNat = 4) (hv : ∀ c : Int, 0 ≤ c → c < m 7 → (m' (41724 + c).toNat = 0 ∨ m' (41724 + c).toNat = 1) → (m (41724 + c).toNat = 0 ∨ m (41724 + c).toNat = 1)) : yN m' := by
  have h7 := hA.2.1
  refine ⟨fun s s0 s1 => ?_, fun c c0 c1 e => ?_⟩
  · rw [hm 0 (by omega)] at s1
    obtain ⟨c, c0, c1, e4, e⟩ := h.1 s s0 s1
    exact ⟨c, c0, by rw [hm 7 (by omega)]; exact c1, hw c c0 c1 e4, by rw [hm (41784 + c).toNat (by omega)]; exact e⟩
  · rw [hm 7 (by omega)] at c1
    rw [hm (41844 + c).toNat (by omega)]
    exact h.2 c c0 c1 (hv c c0 c1 e)
theorem yM_fr {C : xM} {m m' : Nat → Int} (h : yM m) (hA : yA C m) (hm : ∀ i : Nat, (i = 1 ∨ i = 7 ∨ (12 ≤ i ∧ i < 20) ∨ (41904 ≤ i ∧ i < 41964)) → m' i = m i) : yM m' := by
  have h7 := hA.2.1
  have h70 := hA.1
  unfold yM at h ⊢
  rw [hm 7 (by omega), hm 1 (by omega), sumN_fr 8 (fun k hk => hm (12 + k) (by omega)), sumN_fr (m 7).toNat (fun k hk => hm (41904 + k) (by omega))]
  exact h

/-! a unit comes to a slot -/
/-- the same lines in two slots -/
def sl2 (m : Nat → Int) (s : Int) (w : Nat → Int) (t : Int) : Prop := ∀ f : Int, 0 ≤ f → f < 8 → slE m w s t f
def edS (m w : Nat → Int) : Prop := ∀ i : Nat, (41904 ≤ i ∧ i < 42024) ∨ (42084 ≤ i ∧ i < 49044) → w i = m i
theorem apM_A {m : Nat → Int} {s f a t q n e i : Int} (s0 : 0 ≤ s) (f0 : 0 ≤ f) (a0 : 0 ≤ a) (t0 : 0 ≤ t) (q0 : 0 ≤ q) (h1 : a + t ≤ n) (n24 : n ≤ 24) (h2 : n - t + q ≤ 24) (f1 : f < 8) (s1 : s < 64) (i0 : 0 ≤ i) (i1 : i < a) : apM m s f a t q n e (21004 + (320 * s + 40 * f + i)).toNat = m (21004 + (320 * s + 40 * f + i)).toNat ∧ apM m s f a t q n e (524 + (320 * s + 40 * f + i)).toNat = m (524 + (320 * s + 40 * f + i)).toNat := by
  unfold apM
  exact ⟨by rw [up1_ne (by omega), fl1_out (by omega), fl1_out (by omega), fl1_out (by omega), fl1_out (by omega)], by rw [up1_ne (by omega), fl1_out (by omega), fl1_out (by omega), fl1_out (by omega), fl1_out (by omega)]⟩
theorem apM_B {m : Nat → Int} {s f a t q n e i : Int} (s0 : 0 ≤ s) (f0 : 0 ≤ f) (a0 : 0 ≤ a) (t0 : 0 ≤ t) (q0 : 0 ≤ q) (h1 : a + t ≤ n) (n24 : n ≤ 24) (h2 : n - t + q ≤ 24) (f1 : f < 8) (s1 : s < 64) (i0 : 0 ≤ i) (i1 : i < q) : apM m s f a t q n e (21004 + (320 * s + 40 * f + (a + i))).toNat = m (46164 + 6 * e + i).toNat ∧ apM m s f a t q n e (524 + (320 * s + 40 * f + (a + i))).toNat = m (47604 + 6 * e + i).toNat := by
  unfold apM
  refine ⟨?_, ?_⟩
  · rw [up1_ne (by omega), fl1_out (by omega), fl1_in (by omega) (by omega), show ((((21004 + (320 * s + 40 * f + (a + i))).toNat - (21004 + (320 * s + 40 * f + a)).toNat : Nat)) : Int) = i by omega]
  · rw [up1_ne (by omega), fl1_in (by omega) (by omega), show ((((524 + (320 * s + 40 * f + (a + i))).toNat - (524 + (320 * s + 40 * f + a)).toNat : Nat)) : Int) = i by omega]
theorem apM_D {m : Nat → Int} {s f a t q n e i : Int} (s0 : 0 ≤ s) (f0 : 0 ≤ f) (a0 : 0 ≤ a) (t0 : 0 ≤ t) (q0 : 0 ≤ q) (h1 : a + t ≤ n) (n24 : n ≤ 24) (h2 : n - t + q ≤ 24) (f1 : f < 8) (s1 : s < 64) (i0 : 0 ≤ i) (i1 : i < n - a - t) : apM m s f a t q n e (21004 + (320 * s + 40 * f + (a + q + i))).toNat = m (21004 + (320 * s + 40 * f + (a + t + i))).toNat ∧ apM m s f a t q n e (524 + (320 * s + 40 * f + (a + q + i))).toNat = m (524 + (320 * s + 40 * f + (a + t + i))).toNat := by
  unfold apM
  refine ⟨?_, ?_⟩
  · rw [up1_ne (by omega), fl1_out (by omega), fl1_out (by omega), fl1_out (by omega), fl1_in (by omega) (by omega), show ((((21004 + (320 * s + 40 * f + (a + q + i))).toNat - (21004 + (320 * s + 40 * f + (a + q))).toNat : Nat)) : Int) = i by omega]
  · rw [up1_ne (by omega), fl1_out (by omega), fl1_out (by omega), fl1_in (by omega) (by omega), show ((((524 + (320 * s + 40 * f + (a + q + i))).toNat - (524 + (320 * s + 40 * f + (a + q))).toNat : Nat)) : Int) = i by omega]
theorem fitE_sl {m w : Nat → Int} {s t e : Int} (h : sl2 m s w t) (he : edS m w) (e0 : 0 ≤ e) (e1 : e < 240) (f0 : 0 ≤ m (42084 + e).toNat) (f1 : m (42084 + e).toNat < 8) (t6 : m (42324 + e).toNat ≤ 6) : fitE w t e = fitE m s e := by
  obtain ⟨y1, y2⟩ := h _ f0 f1
  funext p
  unfold fitE fitG
  rw [he (42084 + e).toNat (by omega), he (42804 + e).toNat (by omega), he (43044 + e).toNat (by omega), he (42324 + e).toNat (by omega), he (42564 + e).toNat (by omega), y1]
  have hk : ∀ i : Int, mkS w t (m (42084 + e).toNat) i = mkS m s (m (42084 + e).toNat) i := fun i => by
    unfold mkS
    rw [y1]
    by_cases h : 0 ≤ i ∧ i < m (12 + 8 * s + m (42084 + e).toNat).toNat
    · rw [if_pos h, if_pos h, (y2 i h.1 h.2).1]
    · rw [if_neg h, if_neg h]
  simp only [hk]
  refine propext ⟨fun h => ⟨h.1, h.2.1, h.2.2.1, h.2.2.2.1, h.2.2.2.2.1, fun i hi => ?_⟩, fun h => ⟨h.1, h.2.1, h.2.2.1, h.2.2.2.1, h.2.2.2.2.1, fun i hi => ?_⟩⟩
  · rw [h.2.2.2.2.2 i hi, he _ (by omega)]
  · rw [h.2.2.2.2.2 i hi, he _ (by omega)]
theorem apX_sl {m w : Nat → Int} {s t e : Int} (h : sl2 m s w t) (he : edS m w) (hb : ∀ f : Int, 0 ≤ f → f < 8 → 0 ≤ m (12 + 8 * s + f).toNat ∧ m (12 + 8 * s + f).toNat ≤ 24) (s0 : 0 ≤ s) (s1 : s < 64) (t0 : 0 ≤ t) (t1 : t < 64) (e0 : 0 ≤ e) (e1 : e < 240) (f0 : 0 ≤ m (42084 + e).toNat) (f1 : m (42084 + e).toNat < 8) (o0 : 0 ≤ m (42324 + e).toNat) (o6 : m (42324 + e).toNat ≤ 6) (q0 : 0 ≤ m (42564 + e).toNat) (q6 : m (42564 + e).toNat ≤ 6) (ok : plc (fitE m s e) ≠ -1) :
    sl2 (apX m s e) s (apX w t e) t ∧ edS (apX m s e) (apX w t e) ∧ (∀ i : Nat, ¬ aS s i → apX m s e i = m i) ∧ ∀ f : Int, 0 ≤ f → f < 8 → 0 ≤ apX m s e (12 + 8 * s + f).toNat ∧ apX m s e (12 + 8 * s + f).toNat ≤ 24 := by
  have efit := fitE_sl h he e0 e1 f0 f1 o6
  obtain ⟨y1, y2⟩ := h _ f0 f1
  obtain ⟨p0, p1, p2, p3, p4, p5⟩ := plc_ok (P := fitE m s e) (fun p hp => hp.1) ok
  have hn := hb _ f0 f1
  unfold apX
  rw [he (42084 + e).toNat (by omega), he (42324 + e).toNat (by omega), he (42564 + e).toNat (by omega), y1, efit]
  generalize hN : m (12 + 8 * s + m (42084 + e).toNat).toNat = n at *
  generalize hF : m (42084 + e).toNat = f at *
  generalize m (42324 + e).toNat = o at *
  generalize m (42564 + e).toNat = q at *
  generalize plc (fitE m s e) = p at *
  have nm := fun i : Nat => apM_ne (m := m) (s := s) (f := f) (a := p) (t := o) (q := q) (n := n) (e := e) (i := i) s0 f0 p0 o0 q0 p1 hn.2 p2
  have nw := fun i : Nat => apM_ne (m := w) (s := t) (f := f) (a := p) (t := o) (q := q) (n := n) (e := e) (i := i) t0 f0 p0 o0 q0 p1 hn.2 p2
  refine ⟨fun g g0 g1 => ?_, fun i hi => ?_, fun i hi => nm i (fun z => hi (by unfold aSf at z; unfold aS; omega)), fun g g0 g1 => ?_⟩
  · by_cases eg : g = f
    · subst eg
      have l1 : apM m s g p o q n e (12 + 8 * s + g).toNat = n + (q - o) := up1_eq
      have l2 : apM w t g p o q n e (12 + 8 * t + g).toNat = n + (q - o) := up1_eq
      refine ⟨l2.trans l1.symm, fun i i0 i1 => ?_⟩
      rw [l1] at i1
      by_cases z1 : i < p
      · have a := apM_A (m := m) (e := e) s0 g0 p0 o0 q0 p1 hn.2 p2 g1 s1 i0 z1
        have b := apM_A (m := w) (e := e) t0 g0 p0 o0 q0 p1 hn.2 p2 g1 t1 i0 z1
        rw [a.1, a.2, b.1, b.2]
        exact y2 i i0 (by omega)
      · by_cases z2 : i < p + q
        · have a := apM_B (m := m) (e := e) s0 g0 p0 o0 q0 p1 hn.2 p2 g1 s1 (show 0 ≤ i - p by omega) (by omega)
          have b := apM_B (m := w) (e := e) t0 g0 p0 o0 q0 p1 hn.2 p2 g1 t1 (show 0 ≤ i - p by omega) (by omega)
          rw [show p + (i - p) = i by omega] at a b
          rw [a.1, a.2, b.1, b.2, he _ (by omega), he _ (by omega)]
          exact ⟨rfl, rfl⟩
        · have a := apM_D (m := m) (e := e) s0 g0 p0 o0 q0 p1 hn.2 p2 g1 s1 (show 0 ≤ i - p - q by omega) (by omega)
          have b := apM_D (m := w) (e := e) t0 g0 p0 o0 q0 p1 hn.2 p2 g1 t1 (show 0 ≤ i - p - q by omega) (by omega)
          rw [show p + q + (i - p - q) = i by omega] at a b
          rw [a.1, a.2, b.1, b.2]
          exact y2 _ (by omega) (by omega)
    · have hg := hb g g0 g1
      obtain ⟨x1, x2⟩ := h g g0 g1
      have k1 := nm (12 + 8 * s + g).toNat (by unfold aSf; omega)
      have k2 := nw (12 + 8 * t + g).toNat (by unfold aSf; omega)
      refine ⟨by rw [k1, k2]; exact x1, fun i i0 i1 => ?_⟩
      rw [k1] at i1
      rw [nm _ (by unfold aSf; omega), nm _ (by unfold aSf; omega), nw _ (by unfold aSf; omega), nw _ (by unfold aSf; omega)]
      exact x2 i i0 i1
  · rw [nm i (by unfold aSf; omega), nw i (by unfold aSf; omega)]
    exact he i hi
  · by_cases eg : g = f
    · subst eg
      rw [show apM m s g p o q n e (12 + 8 * s + g).toNat = n + (q - o) from up1_eq]
      omega
    · rw [nm (12 + 8 * s + g).toNat (by unfold aSf; omega)]
      exact hb g g0 g1
/-- a unit fits on a slot -/
def uft (m : Nat → Int) (s u : Int) : Prop := fitC m s u ∧ (m (41964 + u).toNat = -1 ∨ fitC (apI m s u (m (41904 + u).toNat).toNat) s (m (41964 + u).toNat))
theorem fitC_sl {C : xM} {m w : Nat → Int} {s t c : Int} (hJ : yJ C m) (h : sl2 m s w t) (he : edS m w) (c0 : 0 ≤ c) (c1 : c < m 7) : fitC m s c ↔ fitC w t c := by
  have h7 := hJ.1.2.1
  have hcn := (hJ.1.2.2.2 c c0 c1).2.1
  have e1 : w (41904 + c).toNat = m (41904 + c).toNat := he _ (by omega)
  unfold fitC
  rw [e1]
  have q : ∀ k : Nat, (k : Int) < m (41904 + c).toNat → fitE w t (4 * c + (k : Int)) = fitE m s (4 * c + (k : Int)) := fun k hk => by
    have hE := ((hJ.2.1 c c0 c1).1 k (by omega) hk).2.1
    exact fitE_sl h he (by omega) (by omega) hE.1 (by omega) hE.2.2.2.1
  exact ⟨fun z k hk => by rw [q k hk]; exact z k hk, fun z k hk => by rw [← q k hk]; exact z k hk⟩
theorem apI_sl {C : xM} {m w : Nat → Int} {s t c : Int} (hJ : yJ C m) (hb : ∀ f : Int, 0 ≤ f → f < 8 → 0 ≤ m (12 + 8 * s + f).toNat ∧ m (12 + 8 * s + f).toNat ≤ 24) (h : sl2 m s w t) (he : edS m w) (s0 : 61 ≤ s ∨ (0 ≤ s ∧ s ≤ 60)) (s1 : s < 64) (t0 : 0 ≤ t) (t1 : t < 64) (c0 : 0 ≤ c) (c1 : c < m 7) (ok : fitC m s c) : ∀ k : Nat, (k : Int) ≤ m (41904 + c).toNat → sl2 (apI m s c k) s (apI w t c k) t ∧ edS (apI m s c k) (apI w t c k) ∧ (∀ i : Nat, ¬ aS s i → apI m s c k i = m i) ∧ (∀ f : Int, 0 ≤ f → f < 8 → 0 ≤ apI m s c k (12 + 8 * s + f).toNat ∧ apI m s c k (12 + 8 * s + f).toNat ≤ 24) ∧
    (∀ j : Int, k ≤ j → j < m (41904 + c).toNat → ∀ x : Nat, aSf s (m (42084 + (4 * c + j)).toNat) x → apI m s c k x = m x) := by
  have h7 := hJ.1.2.1
  have hcn := (hJ.1.2.2.2 c c0 c1).2.1
  intro k
  induction k with
  | zero => intro _; exact ⟨h, he, fun _ _ => rfl, hb, fun _ _ _ _ _ => rfl⟩
  | succ k ih =>
    intro hk
    obtain ⟨i1, i2, i3, i4, i5⟩ := ih (by omega)
    have hE := ((hJ.2.1 c c0 c1).1 k (by omega) (by omega)).2.1
    have ee : ∀ i : Nat, 41484 ≤ i → apI m s c k i = m i := fun i hi => i3 i (by unfold aS; omega)
    have efit : fitE (apI m s c k) s (4 * c + (k : Int)) = fitE m s (4 * c + (k : Int)) := fitE_fr (f := m (42084 + (4 * c + (k : Int))).toNat) rfl (by omega) (by omega) s1 hE.1 (by omega) (hb _ hE.1 (by omega)).2 (i5 k (by omega) (by omega)) ee
    have okk : plc (fitE (apI m s c k) s (4 * c + (k : Int))) ≠ -1 := by
      rw [efit]
      exact ok k (by omega)
    obtain ⟨x1, x2, x3, x4⟩ := apX_sl (e := 4 * c + (k : Int)) i1 i2 i4 (by omega) s1 t0 t1 (by omega) (by omega) (by rw [ee _ (by omega)]; exact hE.1) (by rw [ee _ (by omega)]; omega) (by rw [ee _ (by omega)]; exact hE.2.2.1) (by rw [ee _ (by omega)]; exact hE.2.2.2.1) (by rw [ee _ (by omega)]; exact hE.2.2.2.2.1) (by rw [ee _ (by omega)]; exact hE.2.2.2.2.2.1) okk
    refine ⟨x1, x2, fun i hi => (x3 i hi).trans (i3 i hi), x4, fun j j0 j1 x hx => ?_⟩
    have hEj := ((hJ.2.1 c c0 c1).1 j (by omega) j1).2.1
    have dj : m (42084 + (4 * c + j)).toNat ≠ m (42084 + (4 * c + (k : Int))).toNat := fun z => by
      have := (hJ.2.1 c c0 c1).2 j k (by omega) j1 (by omega) (by omega) z
      omega
    have fp := plc_ok (P := fitE (apI m s c k) s (4 * c + (k : Int))) (fun p hp => hp.1) okk
    obtain ⟨p0, p1, p2, p3, p4, p5⟩ := fp
    show apX (apI m s c k) s (4 * c + (k : Int)) x = m x
    have b1 : 0 ≤ apI m s c k (42324 + (4 * c + (k : Int))).toNat := by rw [ee _ (by omega)]; exact hE.2.2.1
    have b2 : 0 ≤ apI m s c k (42564 + (4 * c + (k : Int))).toNat := by rw [ee _ (by omega)]; exact hE.2.2.2.2.1
    have b3 : apI m s c k (42084 + (4 * c + (k : Int))).toNat = m (42084 + (4 * c + (k : Int))).toNat := ee _ (by omega)
    have b4 := (i4 (apI m s c k (42084 + (4 * c + (k : Int))).toNat) (by rw [b3]; exact hE.1) (by rw [b3]; omega)).2
    unfold apX
    rw [apM_ne (by omega) (by rw [b3]; exact hE.1) p0 b1 b2 p1 b4 p2 (fun z => by unfold aSf at hx z; rw [b3] at z; omega)]
    exact i5 j (by omega) j1 x hx
theorem uft_sl {C : xM} {m w : Nat → Int} {s t u : Int} (hJ : yJ C m) (hb : ∀ f : Int, 0 ≤ f → f < 8 → 0 ≤ m (12 + 8 * s + f).toNat ∧ m (12 + 8 * s + f).toNat ≤ 24) (h : sl2 m s w t) (he : edS m w) (s0 : s = 61 ∨ s = 63) (t0 : 0 ≤ t) (t1 : t < 64) (u0 : 0 ≤ u) (u1 : u < m 7) : uft m s u ↔ uft w t u := by
  have h7 := hJ.1.2.1
  have hcn := (hJ.1.2.2.2 u u0 u1).2.1
  have gp := (hJ.1.2.2.2 u u0 u1).2.2.2
  have e1 : w (41904 + u).toNat = m (41904 + u).toNat := he _ (by omega)
  have e2 : w (41964 + u).toNat = m (41964 + u).toNat := he _ (by omega)
  have f1 := fitC_sl hJ h he u0 u1
  unfold uft
  rw [e1, e2, ← f1]
  by_cases ok : fitC m s u
  · obtain ⟨x1, x2, x3, x4, x5⟩ := apI_sl hJ hb h he (by omega) (by omega) t0 t1 u0 u1 ok (m (41904 + u).toNat).toNat (by omega)
    by_cases hp : m (41964 + u).toNat = -1
    · exact ⟨fun _ => ⟨ok, Or.inl hp⟩, fun _ => ⟨ok, Or.inl hp⟩⟩
    · have hJ2 : yJ C (apI m s u (m (41904 + u).toNat).toNat) := yJ_W hJ (fun i hi => x3 i (aS_W (by omega) hi)) (fun _ _ _ => rfl)
      have f2 := fitC_sl (c := m (41964 + u).toNat) hJ2 x1 x2 (by omega) (by rw [x3 7 (by unfold aS; omega)]; omega)
      rw [f2]
  · exact ⟨fun z => absurd z.1 ok, fun z => absurd z.1 ok⟩
section
variable {sc : Nat × (Nat → Int)} {C : xM} {m : Nat → Int} {ρ : Int → Int → Int}
theorem unit_comes (h : yJ C m) (ho : oB ρ m) {sf st s' : Int} (hS : ySl C m sf s') (hρ : oSl ρ m s') (sf0 : 0 ≤ sf) (sf1 : sf < 63) (hst : st = 61 ∨ st = 62) (hne : st ≠ sf) (hs' : s' = 61 ∨ s' = 63) {u : Int} (u0 : 0 ≤ u) (u1 : u < m 7) :
    ∃ (b : Int) (C' : xM) (m' : Nat → Int), (b = 0 ∨ b = 1) ∧ EV sc 71 [vR 1, vI u, vI sf, vI st] (SK, C) = some (some (vI b), (SK, C')) ∧ rS m (fun ν => EV sc 208 [vR 139, vI u, vI s'] (SK, ν)) (fun ν => some (some (vI b), (SK, ν))) m' ∧ (∀ k i : Nat, ¬ dS st k i → C' k i = C k i) ∧ (∀ i : Nat, ¬ aS s' i → ¬ aS 62 i → m' i = m i) ∧
      (b = 1 → ySl C' m' st s') ∧ (b = 0 → ySl C' m' sf s') ∧ oSl ρ m' s' ∧ (b = 1 ↔ uft m s' u) := by
  have a4 := h.1
  have n7 : 0 ≤ m 7 ∧ m 7 ≤ 60 := ⟨a4.1, a4.2.1⟩
  have hl : ∀ f : Int, 0 ≤ f → f < 8 → 0 ≤ m (12 + 8 * s' + f).toNat ∧ m (12 + 8 * s' + f).toNat ≤ 24 := fun f f0 f1 => ⟨(hS f f0 f1).2.1, (hS f f0 f1).2.2.1⟩
  obtain ⟨m1, r1, x1, x2⟩ := m168 (sc := sc) (m := m) (s := s') (t := 62) (by omega) (by omega) (by omega) (by omega) (by omega) hl
  have m11 : m1 1 = m 1 := x1 1 (by unfold aS; omega)
  have k14 := K14 (sc := sc) (μ := C) (s := sf) (t := st) sf0 sf1 (by omega) (by omega)
  have hc1 : ∀ k i : Nat, ¬ dS st k i → cpC C sf st k i = C k i := fun k i hi => cpC_ne (by omega) hi
  have hK1 : yJ (cpC C sf st) m1 := yJ_W h (fun i hi => x1 i (aS_W (by omega) hi)) (fun k i hi => hc1 k i (dS_W hst hi))
  have ho1 : oB ρ m1 := oB_W ho h (fun i hi => x1 i (aS_W (by omega) hi))
  have row1 : ∀ i : Nat, aS s' i → m1 i = m i := fun i hi => x1 i (fun y => by unfold aS at hi y; omega)
  have hS1 : ySl (cpC C sf st) m1 st s' := fun f f0 f1 => yF_row (cpC_yF (hS f f0 f1) sf0 (by omega) f0 f1) (by omega) f0 f1 row1 m11
  have slr : ∀ (w : Nat → Int), (∀ i : Nat, aS s' i → w i = m i) → ∀ f : Int, 0 ≤ f → f < 8 → fiL w s' f = fiL m s' f := fun w hw f f0 f1 => by
    have l24 := hl f f0 f1
    exact slE_fi (s := s') (t := s') ⟨hw _ (by unfold aS; omega), fun i i0 i1 => ⟨hw _ (by unfold aS; omega), hw _ (by unfold aS; omega)⟩⟩
  have hρ1 : oSl ρ m1 s' := fun f f0 f1 => by
    rw [slr m1 row1 f f0 f1]
    exact hρ f f0 f1
  have w17 : m1 7 = m 7 := x1 7 (by unfold aS; omega)
  obtain ⟨C2, z1, z2, z3, z4⟩ := comes (sc := sc) (c := u) hK1 ho1 hS1 hρ1 hst (by omega) u0 (by omega)
  have q34u := q34 (sc := sc) a4 u0 u1
  have hu : uft m1 s' u ↔ uft m s' u := (uft_sl (C := C) h hl (fun f f0 f1 => by
    have l24 := hl f f0 f1
    exact ⟨row1 _ (by unfold aS; omega), fun i i0 i1 => ⟨row1 _ (by unfold aS; omega), row1 _ (by unfold aS; omega)⟩⟩) (fun i hi => x1 i (by unfold aS; omega)) hs' (by omega) (by omega) u0 u1).symm
  have hu1 : m1 (41904 + u).toNat = m (41904 + u).toNat := x1 _ (by unfold aS; have := (a4.2.2.2 u u0 u1).2.1; omega)
  have g34 := (a4.2.2.2 u u0 u1).2.2.2
  have p1 : m1 (41964 + u).toNat = m (41964 + u).toNat := x1 _ (by unfold aS; omega)
  have hc2 : ∀ k i : Nat, ¬ dS st k i → C2 k i = C k i := fun k i hi => (z2 k i hi).trans (hc1 k i hi)

  have back : ∀ (w : Nat → Int) (D : xM), (∀ i : Nat, ¬ aS s' i → w i = m1 i) → (∀ k i : Nat, ¬ dS st k i → D k i = C k i) → ∃ m' : Nat → Int, rS w (fun ν => EV sc 168 [vR 139, vI 62, vI s'] (SK, ν)) (fun ν => some (none, (SK, ν))) m' ∧ (∀ i : Nat, ¬ aS s' i → ¬ aS 62 i → m' i = m i) ∧ ySl D m' sf s' ∧ oSl ρ m' s' := fun w D hw hD => by
    have e62 : ∀ f : Int, 0 ≤ f → f < 8 → slE m w s' 62 f := fun f f0 f1 => by
      obtain ⟨y1, y2⟩ := x2 f f0 f1
      have l24 := hl f f0 f1
      refine ⟨by rw [hw _ (by unfold aS; omega)]; exact y1, fun i i0 i1 => ?_⟩
      rw [hw _ (by unfold aS; omega), hw _ (by unfold aS; omega)]
      exact y2 i i0 i1
    obtain ⟨m', r2, x3, x4⟩ := m168 (sc := sc) (m := w) (s := 62) (t := s') (by omega) (by omega) (by omega) (by omega) (by omega) (fun f f0 f1 => by rw [(e62 f f0 f1).1]; exact hl f f0 f1)
    have ec : ∀ f : Int, 0 ≤ f → f < 8 → slE m m' s' s' f := fun f f0 f1 => by
      obtain ⟨y1, y2⟩ := e62 f f0 f1
      obtain ⟨y3, y4⟩ := x4 f f0 f1
      refine ⟨y3.trans y1, fun i i0 i1 => ?_⟩
      have y5 := y4 i i0 (by rw [y1]; exact i1)
      have y6 := y2 i i0 i1
      exact ⟨y5.1.trans y6.1, y5.2.trans y6.2⟩
    have m'1 : m' 1 = m 1 := by rw [x3 1 (by unfold aS; omega), hw 1 (by unfold aS; omega), m11]
    refine ⟨m', r2, fun i hi hi2 => by rw [x3 i hi, hw i hi, x1 i hi2], fun f f0 f1 => ?_, fun f f0 f1 => ?_⟩
    · have D5 : D 5 = C 5 := by
        funext y
        exact hD 5 y (by unfold dS; omega)
      exact yF_C (slE_yF (hS f f0 f1) (ec f f0 f1) m'1) sf0 f0 f1 (fun k i hi => hD k i (by unfold dS at hi ⊢; omega)) D5
    · rw [slE_fi (ec f f0 f1)]
      exact hρ f f0 f1
  by_cases ok : fitC m1 s' u
  · rw [bI_t ok] at z1
    obtain ⟨m2, y0, r2, y1, y2, y3⟩ := z3 ok
    have p2 : m2 (41964 + u).toNat = m (41964 + u).toNat := by rw [y1 _ (by unfold aS; omega), p1]
    by_cases hp : m (41964 + u).toNat = -1
    · refine ⟨1, C2, m2, Or.inr rfl, ?_, fun ν hν => ?_, hc2, fun i hi hi2 => by rw [y1 i hi, x1 i hi2], fun _ => y2, fun x => absurd x (by omega), y3, ⟨fun _ => hu.mp ⟨ok, Or.inl (p1.trans hp)⟩, fun _ => rfl⟩⟩
      · have k14' : EV sc 14 [vR 2, vI sf, vI st] (SK, C) = some (none, (SK, cpC C sf st)) := k14
        simp (disch := omega) only [V71, B71_0, B71_1, B71_2, B71_3, B71_4, B71_6, B71_8, q34u, k14', z1, hp, xcI_some, xcV_some, if_pos, if_neg, xg_in, wr_of, if_true, if_false, or_true, true_or]
      · obtain ⟨ν1, v1, v2, v3⟩ := r1 ν hν
        obtain ⟨ν2, v4, v5, v6⟩ := r2 ν1 v2
        have v1' : EV sc 168 [vR 139, vI s', vI 62] (SK, ν) = some (none, (SK, ν1)) := v1
        have v4' : EV sc 191 [vR 139, vI u, vI s'] (SK, ν1) = some (some (vI 1), (SK, ν2)) := v4
        refine ⟨ν2, ?_, v5, v3.tr v6⟩
        have vp : ν2 140 (41964 + u).toNat = -1 := by rw [v5, p2, hp]
        show EV sc 208 [vR 139, vI u, vI s'] (SK, ν) = some (some (vI 1), (SK, ν2))
        simp (disch := omega) only [V208, B208_0, B208_1, B208_2, B208_4, v1', v4', vp, xcI_some, xcV_some, if_pos, if_neg, xg_in, wr_of, if_true, if_false, or_true, true_or]
    · have g5 : 0 ≤ m (41964 + u).toNat ∧ m (41964 + u).toNat < m 7 := by omega
      generalize hP : m (41964 + u).toNat = p at *
      have hK2 : yJ C2 m2 := yJ_W hK1 (fun i hi => y1 i (aS_W (by omega) hi)) (fun k i hi => z2 k i (dS_W hst hi))
      have ho2 : oB ρ m2 := oB_W ho1 hK1 (fun i hi => y1 i (aS_W (by omega) hi))
      have w27 : m2 7 = m 7 := by rw [y1 7 (by unfold aS; omega), w17]
      obtain ⟨C3, a1, a2, a3, a5⟩ := comes (sc := sc) (c := p) hK2 ho2 y2 y3 hst (by omega) g5.1 (by omega)
      have hc3 : ∀ k i : Nat, ¬ dS st k i → C3 k i = C k i := fun k i hi => (a2 k i hi).trans (hc2 k i hi)
      have k14' : EV sc 14 [vR 2, vI sf, vI st] (SK, C) = some (none, (SK, cpC C sf st)) := k14
      by_cases ok2 : fitC m2 s' p
      · rw [bI_t ok2] at a1
        obtain ⟨m3, _, r3, b1, b2, b3⟩ := a3 ok2
        refine ⟨1, C3, m3, Or.inr rfl, ?_, fun ν hν => ?_, hc3, fun i hi hi2 => by rw [b1 i hi, y1 i hi, x1 i hi2], fun _ => b2, fun x => absurd x (by omega), b3, ⟨fun _ => hu.mp ⟨ok, Or.inr (by rw [p1, ← y0]; exact ok2)⟩, fun _ => rfl⟩⟩
        · simp (disch := omega) only [V71, B71_0, B71_1, B71_2, B71_3, B71_4, B71_5, B71_6, B71_8, q34u, k14', z1, a1, xcI_some, xcV_some, if_pos, if_neg, xg_in, wr_of, if_true, if_false, or_true, true_or]
        · obtain ⟨ν1, v1, v2, v3⟩ := r1 ν hν
          obtain ⟨ν2, v4, v5, v6⟩ := r2 ν1 v2
          obtain ⟨ν3, v7, v8, v9⟩ := r3 ν2 v5
          have v1' : EV sc 168 [vR 139, vI s', vI 62] (SK, ν) = some (none, (SK, ν1)) := v1
          have v4' : EV sc 191 [vR 139, vI u, vI s'] (SK, ν1) = some (some (vI 1), (SK, ν2)) := v4
          have v7' : EV sc 191 [vR 139, vI p, vI s'] (SK, ν2) = some (some (vI 1), (SK, ν3)) := v7
          refine ⟨ν3, ?_, v8, v3.tr (v6.tr v9)⟩
          have vp : ν2 140 (41964 + u).toNat = p := by rw [v5, p2]
          show EV sc 208 [vR 139, vI u, vI s'] (SK, ν) = some (some (vI 1), (SK, ν3))
          simp (disch := omega) only [V208, B208_0, B208_1, B208_2, B208_3, B208_4, v1', v4', vp, v7', xcI_some, xcV_some, if_pos, if_neg, xg_in, wr_of, if_true, if_false, or_true, true_or]
      · rw [bI_f ok2] at a1
        have a5' := a5 ok2
        obtain ⟨m4, r4, b1, b2, b3⟩ := back m2 C3 y1 hc3
        refine ⟨0, C3, m4, Or.inl rfl, ?_, fun ν hν => ?_, hc3, b1, fun x => absurd x (by omega), fun _ => b2, b3, ⟨fun x => absurd x (by omega), fun z => absurd ((hu.mpr z).2.elim (fun y => absurd (p1.symm.trans y) hp) (fun y => by rw [p1, ← y0] at y; exact y)) ok2⟩⟩
        · simp (disch := omega) only [V71, B71_0, B71_1, B71_2, B71_3, B71_4, B71_5, B71_7, B71_8, q34u, k14', z1, a1, xcI_some, xcV_some, if_pos, if_neg, xg_in, wr_of, if_true, if_false, or_true, true_or]
        · obtain ⟨ν1, v1, v2, v3⟩ := r1 ν hν
          obtain ⟨ν2, v4, v5, v6⟩ := r2 ν1 v2
          obtain ⟨ν3, v7, v8, v9⟩ := r4 ν2 v5
          have v1' : EV sc 168 [vR 139, vI s', vI 62] (SK, ν) = some (none, (SK, ν1)) := v1
          have v4' : EV sc 191 [vR 139, vI u, vI s'] (SK, ν1) = some (some (vI 1), (SK, ν2)) := v4
          have v7' : EV sc 168 [vR 139, vI 62, vI s'] (SK, ν2) = some (none, (SK, ν3)) := v7
          have v5' := a5' ν2 v5
          refine ⟨ν3, ?_, v8, v3.tr (v6.tr v9)⟩
          have vp : ν2 140 (41964 + u).toNat = p := by rw [v5, p2]
          show EV sc 208 [vR 139, vI u, vI s'] (SK, ν) = some (some (vI 0), (SK, ν3))
          simp (disch := omega) only [V208, B208_0, B208_1, B208_2, B208_3, B208_5, B208_6, v1', v4', vp, v5', v7', xcI_some, xcV_some, if_pos, if_neg, xg_in, wr_of, if_true, if_false, or_true, true_or]
  · rw [bI_f ok] at z1
    have z4' := z4 ok
    obtain ⟨m4, r4, b1, b2, b3⟩ := back m1 C2 (fun _ _ => rfl) hc2
    have k14' : EV sc 14 [vR 2, vI sf, vI st] (SK, C) = some (none, (SK, cpC C sf st)) := k14
    refine ⟨0, C2, m4, Or.inl rfl, ?_, fun ν hν => ?_, hc2, b1, fun x => absurd x (by omega), fun _ => b2, b3, ⟨fun x => absurd x (by omega), fun z => absurd (hu.mpr z).1 ok⟩⟩
    · simp (disch := omega) only [V71, B71_0, B71_1, B71_2, B71_3, q34u, k14', z1, xcI_some, xcV_some, if_pos, if_neg, xg_in, wr_of, if_true, if_false, or_true, true_or]
    · obtain ⟨ν1, v1, v2, v3⟩ := r1 ν hν
      obtain ⟨ν3, v7, v8, v9⟩ := r4 ν1 v2
      have v1' : EV sc 168 [vR 139, vI s', vI 62] (SK, ν) = some (none, (SK, ν1)) := v1
      have v7' : EV sc 168 [vR 139, vI 62, vI s'] (SK, ν1) = some (none, (SK, ν3)) := v7
      have v4' := z4' ν1 v2
      refine ⟨ν3, ?_, v8, v3.tr v9⟩
      show EV sc 208 [vR 139, vI u, vI s'] (SK, ν) = some (some (vI 0), (SK, ν3))
      simp (disch := omega) only [V208, B208_0, B208_1, B208_2, B208_5, B208_6, v1', v4', v7', xcI_some, xcV_some, if_pos, if_neg, xg_in, wr_of, if_true, if_false, or_true, true_or]
end

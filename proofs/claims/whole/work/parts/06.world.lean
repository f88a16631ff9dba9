/-! the interpreter's state on the machine's heap -/
def xv (ad : Nat → Nat) (b : Nat) : xV → Value
  | .inl x => .int (Int32.ofInt x)
  | .inr (.inl x) => .long (Int64.ofInt x)
  | .inr (.inr (.inl r)) => .ref (ad r)
  | .inr (.inr (.inr true)) => .ref b
  | .inr (.inr (.inr false)) => .null
def xfv (ad : Nat → Nat) (f : Nat → Int) (j : Nat) : Option (Option Nat) → Value
  | none => .int (Int32.ofInt (f j))
  | some none => .null
  | some (some r) => .ref (ad r)
def xce (ad : Nat → Nat) (cA : ClassId) (f : Nat → Int) : xK → va_E
  | .inl n => .inl (cA, n, .inl fun j => Int32.ofInt (f j))
  | .inr (ci, ks) => .inr (ci, ks.mapIdx (xfv ad f))
def xws (ad : Nat → Nat) (cA : ClassId) (σ : xS) : va_W := σ.1.mapIdx fun k q => (ad k, xce ad cA (σ.2 k) q)
def xks : xK → Nat | .inl n => n | .inr (_, fs) => fs.length
def xsz (ks : List xK) : Nat := (ks.map xks).sum
def xvo (n : Nat) : xV → Prop
  | .inl x => in32 x
  | .inr (.inl x) => in64 x
  | .inr (.inr (.inl r)) => r < n
  | .inr (.inr (.inr _)) => True
def xso (σ : xS) : Prop := (∀ k j, in32 (σ.2 k j)) ∧ (∀ (k n : Nat), σ.1[k]? = some (Sum.inl n) → n ≤ 100000) ∧ ∀ (k ci : Nat) (fs : List (Option (Option Nat))), σ.1[k]? = some (Sum.inr (ci, fs)) → ∀ r : Nat, some (some r) ∈ fs → r < σ.1.length
theorem xvo_mono {n n' : Nat} (h : n ≤ n') {v : xV} (hv : xvo n v) : xvo n' v := by
  match v, hv with
  | .inl _, hv => exact hv
  | .inr (.inl _), hv => exact hv
  | .inr (.inr (.inl r)), hv => exact Nat.lt_of_lt_of_le hv h
  | .inr (.inr (.inr _)), _ => trivial
theorem xws_at {ad : Nat → Nat} {cA : ClassId} {σ : xS} {k : Nat} {q : xK} (h : σ.1[k]? = some q) : (xws ad cA σ)[k]? = some (ad k, xce ad cA (σ.2 k) q) := by
  unfold xws
  rw [List.getElem?_mapIdx, h]
  rfl
theorem set_same {α : Type} {l : List α} {k : Nat} {q : α} (h : l[k]? = some q) : l.set k q = l := by
  apply List.ext_getElem?
  intro i
  rw [List.getElem?_set]
  split
  · rename_i e
    subst e
    split
    · exact h.symm
    · rename_i hl
      rw [List.getElem?_eq_none (by omega)]
  · rfl
theorem xws_upd {ad : Nat → Nat} {cA : ClassId} {σ : xS} {μ' : xM} {k : Nat} {q q' : xK} (hk : σ.1[k]? = some q) (h2 : ∀ i, i ≠ k → μ' i = σ.2 i) :
    (xws ad cA σ).set k (ad k, xce ad cA (μ' k) q') = xws ad cA (σ.1.set k q', μ') := by
  have hl := (List.getElem?_eq_some_iff.mp hk).1
  unfold xws
  apply List.ext_getElem?
  intro i
  rw [List.getElem?_set, List.getElem?_mapIdx, List.getElem?_mapIdx, List.getElem?_set]
  by_cases e : k = i
  · subst e
    simp [hl]
  · simp only [if_neg e, h2 i (Ne.symm e)]
theorem xws_same {ad : Nat → Nat} {cA : ClassId} {σ : xS} {μ' : xM} {k : Nat} {q : xK} (hk : σ.1[k]? = some q) (h2 : ∀ i, i ≠ k → μ' i = σ.2 i) :
    (xws ad cA σ).set k (ad k, xce ad cA (μ' k) q) = xws ad cA (σ.1, μ') := by
  rw [xws_upd hk h2, set_same hk]
theorem xws_len {ad : Nat → Nat} {cA : ClassId} {σ : xS} : (xws ad cA σ).length = σ.1.length := by unfold xws; simp
/-- a value of valid references does not see addresses that are new -/
theorem xv_ad {ad ad' : Nat → Nat} {b n : Nat} {v : xV} (hv : xvo n v) (h : ∀ k, k < n → ad' k = ad k) : xv ad' b v = xv ad b v := by
  match v, hv with
  | .inl _, _ => rfl
  | .inr (.inl _), _ => rfl
  | .inr (.inr (.inl r)), hv => show Value.ref (ad' r) = Value.ref (ad r); rw [h r hv]
  | .inr (.inr (.inr true)), _ => rfl
  | .inr (.inr (.inr false)), _ => rfl
theorem xv_ads {ad ad' : Nat → Nat} {b n : Nat} {S : List xV} (hS : ∀ v ∈ S, xvo n v) (h : ∀ k, k < n → ad' k = ad k) : S.map (xv ad' b) = S.map (xv ad b) :=
  List.map_congr_left fun v hv => xv_ad (hS v hv) h
/-- a cell more, at a new address -/
theorem xws_push {ad : Nat → Nat} {cA : ClassId} {σ : xS} {q : xK} {a : Nat} (hs : xso σ) (hq : ∀ ci fs, q = .inr (ci, fs) → ∀ r, some (some r) ∈ fs → r < σ.1.length) :
    xws ad cA σ ++ [(a, xce ad cA (fun _ => 0) q)] = xws (fun k => if k = σ.1.length then a else ad k) cA (σ.1 ++ [q], zr2 σ.2 σ.1.length) := by
  have key : ∀ (f : Nat → Int) (w : xK), (∀ ci fs, w = .inr (ci, fs) → ∀ r, some (some r) ∈ fs → r < σ.1.length) → xce ad cA f w = xce (fun k => if k = σ.1.length then a else ad k) cA f w := by
    intro f w hw
    match w, hw with
    | .inl n, _ => rfl
    | .inr (ci, fs), hw =>
      show (Sum.inr (ci, fs.mapIdx (xfv ad f)) : va_E) = Sum.inr (ci, fs.mapIdx _)
      congr 2
      apply List.ext_getElem?
      intro i
      rw [List.getElem?_mapIdx, List.getElem?_mapIdx]
      cases hi : fs[i]? with
      | none => rfl
      | some o =>
        match o with
        | none => rfl
        | some none => rfl
        | some (some r) =>
          have := hw ci fs rfl r (List.mem_of_getElem? hi)
          show some (Value.ref (ad r)) = some (Value.ref (if r = σ.1.length then a else ad r))
          rw [if_neg (by omega)]
  unfold xws
  apply List.ext_getElem?
  intro i
  by_cases hi : i < σ.1.length
  · rw [List.getElem?_append_left (by simpa using hi), List.getElem?_mapIdx, List.getElem?_mapIdx, List.getElem?_append_left hi]
    have hz : zr2 σ.2 σ.1.length i = σ.2 i := by
      funext j
      unfold zr2
      rw [if_neg (by omega)]
    simp only [hz]
    cases hq2 : σ.1[i]? with
    | none => rfl
    | some w =>
      simp only [Option.map_some]
      rw [key _ w (fun ci fs e => hs.2.2 i ci fs (by rw [hq2, e])), if_neg (by omega)]
  · by_cases hi2 : i = σ.1.length
    · subst hi2
      rw [List.getElem?_append_right (by simp), List.getElem?_mapIdx, List.getElem?_append_right (by simp)]
      have hz : zr2 σ.2 σ.1.length σ.1.length = fun _ => 0 := by
        funext j
        unfold zr2
        rw [if_pos rfl]
      simp only [hz]
      simp [key _ q hq]
    · rw [List.getElem?_eq_none (by simp; omega), List.getElem?_mapIdx, List.getElem?_eq_none (by simp; omega)]
      rfl
-- locals
def xlh (ls : Array Slot) (nL : Nat) (ad : Nat → Nat) (b : Nat) (L : List xV) : Prop := ls.size = nL ∧ lv_wf ls ∧ ∀ (i : Nat) (v : xV), L[i]? = some v → v ≠ vN → ls[i]? = some (Slot.val (xv ad b v))
def xlm (ad : Nat → Nat) (b : Nat) (L : List xV) : List (Nat × Value) := (L.zipIdx.filter fun q => decide (q.1 ≠ vN)).map fun q => (q.2, xv ad b q.1)
theorem xlm_mem {ad : Nat → Nat} {b : Nat} {L : List xV} {q : Nat × Value} : q ∈ xlm ad b L ↔ ∃ v, L[q.1]? = some v ∧ v ≠ vN ∧ q.2 = xv ad b v := by
  unfold xlm
  rw [List.mem_map]
  constructor
  · rintro ⟨⟨v, i⟩, h, rfl⟩
    rw [List.mem_filter] at h
    exact ⟨v, List.mem_zipIdx_iff_getElem?.mp h.1, by simpa using h.2, rfl⟩
  · rintro ⟨v, h1, h2, h3⟩
    exact ⟨(v, q.1), List.mem_filter.mpr ⟨List.mem_zipIdx_iff_getElem?.mpr h1, by simpa using h2⟩, by rw [← h3]⟩
theorem xlh.has {ls : Array Slot} {nL : Nat} {ad : Nat → Nat} {b : Nat} {L : List xV} (h : xlh ls nL ad b L) : lv_has ls nL (xlm ad b L) :=
  ⟨h.1, h.2.1, fun q hq => by
    obtain ⟨v, h1, h2, h3⟩ := xlm_mem.mp hq
    rw [h3]
    exact h.2.2 _ _ h1 h2⟩
theorem xv_cat (ad : Nat → Nat) (b : Nat) (v : xV) : (xv ad b v).category = xcat v := by
  match v with
  | .inl _ => rfl
  | .inr (.inl _) => rfl
  | .inr (.inr (.inl _)) => rfl
  | .inr (.inr (.inr true)) => rfl
  | .inr (.inr (.inr false)) => rfl
theorem xset_nil (i : Nat) (v : xV) : xset [] i v = [] := by cases i <;> rfl
theorem xset_get : ∀ (L : List xV) (i : Nat) (v : xV) (j : Nat) (u : xV), (xset L i v)[j]? = some u → u ≠ vN → (j = i ∧ u = v) ∨ (j ≠ i ∧ L[j]? = some u ∧ (j + 1 = i → xcat u = 1)) := by
  intro L
  induction L with
  | nil => intro i v j u h hu; rw [xset_nil] at h; cases h
  | cons w L ih =>
    intro i v j u h hu
    match i with
    | 0 =>
      have h : (v :: L)[j]? = some u := h
      cases j with
      | zero => left; exact ⟨rfl, (Option.some.inj h).symm⟩
      | succ j => right; exact ⟨by omega, h, fun e => by omega⟩
    | n + 1 =>
      have gen : ∀ (h : (w :: xset L n v)[j]? = some u) (hw : n = 0 → xcat w = 1), (j = n + 1 ∧ u = v) ∨ (j ≠ n + 1 ∧ (w :: L)[j]? = some u ∧ (j + 1 = n + 1 → xcat u = 1)) := by
        intro h hw
        cases j with
        | zero =>
          right
          have e : w = u := Option.some.inj h
          exact ⟨by omega, h, fun e2 => by rw [← e]; exact hw (by omega)⟩
        | succ j =>
          rcases ih n v j u h hu with ⟨h1, h2⟩ | ⟨h1, h2, h3⟩
          · left; exact ⟨by omega, h2⟩
          · right; exact ⟨by omega, h2, fun e => h3 (by omega)⟩
      match w, n, h, gen with
      | .inr (.inl x), 0, h, gen =>
        have h : (vN :: xset L 0 v)[j]? = some u := h
        cases j with
        | zero => exact absurd (Option.some.inj h).symm hu
        | succ j =>
          rcases ih 0 v j u h hu with ⟨h1, h2⟩ | ⟨h1, h2, h3⟩
          · left; exact ⟨by omega, h2⟩
          · right; exact ⟨by omega, h2, fun e => by omega⟩
      | .inr (.inl x), n + 1, h, gen => exact gen h (fun e => by omega)
      | .inl x, 0, h, gen => exact gen h (fun _ => rfl)
      | .inl x, n + 1, h, gen => exact gen h (fun _ => rfl)
      | .inr (.inr x), 0, h, gen => exact gen h (fun _ => rfl)
      | .inr (.inr x), n + 1, h, gen => exact gen h (fun _ => rfl)
theorem xlh.set1 {ls' : Array Slot} {nL : Nat} {ad : Nat → Nat} {b i : Nat} {L : List xV} {v : xV} (h : lv_has ls' nL ((i, xv ad b v) :: (xlm ad b L).filter (fun q => !(q.1 == i) && !(q.1 + 1 == i && q.2.category == 2)))) : xlh ls' nL ad b (xset L i v) := by
  refine ⟨h.1, h.2.1, fun j u hj hu => ?_⟩
  rcases xset_get L i v j u hj hu with ⟨e1, e2⟩ | ⟨e1, e2, e3⟩
  · rw [e1, e2]
    exact h.2.2 _ List.mem_cons_self
  · refine h.2.2 (j, xv ad b u) (List.mem_cons_of_mem _ (List.mem_filter.mpr ⟨xlm_mem.mpr ⟨u, e2, hu, rfl⟩, ?_⟩))
    have h4 : j + 1 = i → ¬ xcat u = 2 := fun e => by rw [e3 e]; decide
    simp only [xv_cat, Bool.and_eq_true, Bool.not_eq_true', beq_eq_false_iff_ne, Bool.and_eq_false_iff]
    refine ⟨e1, ?_⟩
    by_cases e : j + 1 = i
    · exact Or.inr (h4 e)
    · exact Or.inl e
theorem xlh.set2 {ls' : Array Slot} {nL : Nat} {ad : Nat → Nat} {b i : Nat} {L : List xV} {v : xV} (h : lv_has ls' nL ((i, xv ad b v) :: (xlm ad b L).filter (fun q => !(q.1 == i) && (!(q.1 == i + 1) && !(q.1 + 1 == i && q.2.category == 2))))) : xlh ls' nL ad b ((xset L i v).set (i + 1) vN) := by
  refine ⟨h.1, h.2.1, fun j u hj hu => ?_⟩
  have hne : j ≠ i + 1 := by
    intro e
    subst e
    rw [List.getElem?_set] at hj
    simp only [if_true] at hj
    split at hj
    · exact hu (Option.some.inj hj).symm
    · cases hj
  rw [List.getElem?_set, if_neg (Ne.symm hne)] at hj
  rcases xset_get L i v j u hj hu with ⟨e1, e2⟩ | ⟨e1, e2, e3⟩
  · rw [e1, e2]
    exact h.2.2 _ List.mem_cons_self
  · refine h.2.2 (j, xv ad b u) (List.mem_cons_of_mem _ (List.mem_filter.mpr ⟨xlm_mem.mpr ⟨u, e2, hu, rfl⟩, ?_⟩))
    have h4 : j + 1 = i → ¬ xcat u = 2 := fun e => by rw [e3 e]; decide
    simp only [xv_cat, Bool.and_eq_true, Bool.not_eq_true', beq_eq_false_iff_ne, Bool.and_eq_false_iff]
    refine ⟨e1, hne, ?_⟩
    by_cases e : j + 1 = i
    · exact Or.inr (h4 e)
    · exact Or.inl e
theorem xset_ok {n : Nat} : ∀ {L : List xV} {i : Nat} {v : xV}, (∀ u ∈ L, xvo n u) → xvo n v → ∀ u ∈ xset L i v, xvo n u := by
  intro L i v hL hv u hu
  obtain ⟨j, hj⟩ := List.getElem?_of_mem hu
  by_cases e : u = vN
  · rw [e]; trivial
  · rcases xset_get L i v j u hj e with ⟨_, e2⟩ | ⟨_, e2, _⟩
    · rw [e2]; exact hv
    · exact hL _ (List.mem_of_getElem? e2)

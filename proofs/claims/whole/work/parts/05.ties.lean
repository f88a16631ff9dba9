/-! what the interpreter's numbers are on the machine -/
def in32 (x : Int) : Prop := -2147483648 ≤ x ∧ x ≤ 2147483647
def in64 (x : Int) : Prop := -9223372036854775808 ≤ x ∧ x ≤ 9223372036854775807
theorem wr_bmod (x : Int) : wr x = x.bmod 4294967296 := by
  unfold wr Int.bmod
  dsimp only
  split <;> omega
theorem wl_bmod (x : Int) : wl x = x.bmod 18446744073709551616 := by
  unfold wl Int.bmod
  dsimp only
  split <;> omega
theorem wr_in (x : Int) : in32 (wr x) := by unfold in32 wr; omega
theorem wl_in (x : Int) : in64 (wl x) := by unfold in64 wl; omega
theorem wr_id {x : Int} (h : in32 x) : wr x = x := by unfold in32 at h; unfold wr; omega
theorem wl_id {x : Int} (h : in64 x) : wl x = x := by unfold in64 at h; unfold wl; omega
theorem i_ti {x : Int} (h : in32 x) : (Int32.ofInt x).toInt = x := by
  rw [Int32.toInt_ofInt, ← wr_bmod (x := x), wr_id h]
theorem l_ti {x : Int} (h : in64 x) : (Int64.ofInt x).toInt = x := by
  rw [Int64.toInt_ofInt, ← wl_bmod (x := x), wl_id h]
theorem i_of (x : Int32) : Int32.ofInt x.toInt = x := by
  apply Int32.toInt_inj.mp
  exact i_ti ⟨by have := x.le_toInt; omega, by have := x.toInt_lt; omega⟩
theorem ti_in (x : Int32) : in32 x.toInt := ⟨by have := x.le_toInt; omega, by have := x.toInt_lt; omega⟩
theorem i_wr (x : Int) : Int32.ofInt (wr x) = Int32.ofInt x := by
  apply Int32.toInt_inj.mp
  rw [i_ti (wr_in x), Int32.toInt_ofInt, wr_bmod]
theorem l_wl (x : Int) : Int64.ofInt (wl x) = Int64.ofInt x := by
  apply Int64.toInt_inj.mp
  rw [l_ti (wl_in x), Int64.toInt_ofInt, wl_bmod]
theorem i_eq {x y : Int} (hx : in32 x) (hy : in32 y) : Int32.ofInt x = Int32.ofInt y ↔ x = y := by
  constructor
  · intro h
    have := congrArg Int32.toInt h
    rwa [i_ti hx, i_ti hy] at this
  · intro h; rw [h]
theorem i_lt {x y : Int} (hx : in32 x) (hy : in32 y) : Int32.ofInt x < Int32.ofInt y ↔ x < y := by
  rw [Int32.lt_iff_toInt_lt, i_ti hx, i_ti hy]
theorem i_le {x y : Int} (hx : in32 x) (hy : in32 y) : Int32.ofInt x ≤ Int32.ofInt y ↔ x ≤ y := by
  rw [Int32.le_iff_toInt_le, i_ti hx, i_ti hy]
theorem l_eq {x y : Int} (hx : in64 x) (hy : in64 y) : Int64.ofInt x = Int64.ofInt y ↔ x = y := by
  constructor
  · intro h
    have := congrArg Int64.toInt h
    rwa [l_ti hx, l_ti hy] at this
  · intro h; rw [h]
theorem l_lt {x y : Int} (hx : in64 x) (hy : in64 y) : Int64.ofInt x < Int64.ofInt y ↔ x < y := by
  rw [Int64.lt_iff_toInt_lt, l_ti hx, l_ti hy]
theorem i_add (x y : Int) : Int32.ofInt (wr (x + y)) = Int32.ofInt x + Int32.ofInt y := by rw [i_wr, Int32.ofInt_add]
theorem i_sub (x y : Int) : Int32.ofInt (wr (x - y)) = Int32.ofInt x - Int32.ofInt y := by rw [i_wr, Int32.ofInt_sub]
theorem i_mul (x y : Int) : Int32.ofInt (wr (x * y)) = Int32.ofInt x * Int32.ofInt y := by rw [i_wr, Int32.ofInt_mul]
theorem l_add (x y : Int) : Int64.ofInt (wl (x + y)) = Int64.ofInt x + Int64.ofInt y := by rw [l_wl, Int64.ofInt_add]
theorem l_mul (x y : Int) : Int64.ofInt (wl (x * y)) = Int64.ofInt x * Int64.ofInt y := by rw [l_wl, Int64.ofInt_mul]
theorem i_nI (n : Nat) : Int32.ofInt (n : Int) = nI n := rfl
theorem l_lN (n : Nat) : Int64.ofInt (n : Int) = lN n := rfl
theorem i_div {x y : Int} (hx : in32 x) (hy : in32 y) (h0 : 0 ≤ x) (h1 : 0 < y) : Int32.ofInt (x / y) = Int32.ofInt x / Int32.ofInt y := by
  obtain ⟨a, rfl⟩ := Int.eq_ofNat_of_zero_le h0
  obtain ⟨d, rfl⟩ := Int.eq_ofNat_of_zero_le (Int.le_of_lt h1)
  unfold in32 at hx hy
  rw [i_nI, i_nI, pk_div (by omega) (by omega) (by omega)]
  rfl
theorem i_rem {x y : Int} (hx : in32 x) (hy : in32 y) (h0 : 0 ≤ x) (h1 : 0 < y) : Int32.ofInt (x % y) = Int32.ofInt x - Int32.ofInt x / Int32.ofInt y * Int32.ofInt y := by
  obtain ⟨a, rfl⟩ := Int.eq_ofNat_of_zero_le h0
  obtain ⟨d, rfl⟩ := Int.eq_ofNat_of_zero_le (Int.le_of_lt h1)
  unfold in32 at hx hy
  rw [i_nI, i_nI, pk_rem (by omega) (by omega) (by omega)]
  rfl
theorem l_rem {x y : Int} (hx : in64 x) (hy : in64 y) (h0 : 0 ≤ x) (h1 : 0 < y) : Int64.ofInt (x % y) = Int64.ofInt x - Int64.ofInt x / Int64.ofInt y * Int64.ofInt y := by
  obtain ⟨a, rfl⟩ := Int.eq_ofNat_of_zero_le h0
  obtain ⟨d, rfl⟩ := Int.eq_ofNat_of_zero_le (Int.le_of_lt h1)
  unfold in64 at hx hy
  rw [l_lN, l_lN, pk_lRem (by omega) (by omega) (by omega)]
  rfl
theorem div_in {x y : Int} (hx : in32 x) (h0 : 0 ≤ x) (h1 : 0 < y) : in32 (x / y) := by
  unfold in32 at hx ⊢
  have h2 := Int.ediv_nonneg h0 (Int.le_of_lt h1)
  have h3 := Int.ediv_le_self y h0
  omega
theorem rem_in {x y : Int} (hy : in32 y) (h1 : 0 < y) : in32 (x % y) := by
  unfold in32 at hy ⊢
  have h2 := Int.emod_nonneg x (show y ≠ 0 by omega)
  have h3 := Int.emod_lt_of_pos x h1
  omega
theorem rem_in64 {x y : Int} (hy : in64 y) (h1 : 0 < y) : in64 (x % y) := by
  unfold in64 at hy ⊢
  have h2 := Int.emod_nonneg x (show y ≠ 0 by omega)
  have h3 := Int.emod_lt_of_pos x h1
  omega
theorem i_bv (x : Int) : ((Int32.ofInt x).toBitVec.toNat : Int) = x % 4294967296 := by
  rw [show (Int32.ofInt x).toBitVec = BitVec.ofInt 32 x from rfl, BitVec.toNat_ofInt]
  omega
theorem i_ushr8 (x : Int) : ((Int32.ofInt x).toUInt32 >>> ((Int32.ofInt 8).toUInt32 &&& Int32.toUInt32 31)).toInt32 = Int32.ofInt (x % 4294967296 / 256) := by
  have h := pk_ushr (Int32.ofInt x) (Int32.ofInt 8) 8 (by decide)
  have h2 : (Int32.ofInt (x % 4294967296 / 256)).toBitVec.toNat = (Int32.ofInt x).toBitVec.toNat / 2 ^ 8 := by
    have h3 := i_bv x
    have h4 := i_bv (x % 4294967296 / 256)
    omega
  rw [← h2] at h
  exact Int32.toBitVec_inj.mp (BitVec.eq_of_toNat_eq h)
theorem i_and31 (x : Int) : Int32.ofInt x &&& Int32.ofInt 31 = Int32.ofInt (x % 32) := by
  have h := pk_and (Int32.ofInt x) (m := Int32.ofInt 31) 5 (by decide)
  rw [h]
  have h3 := i_bv x
  have h4 : (x % 32) = (((Int32.ofInt x).toBitVec.toNat % 2 ^ 5 : Nat) : Int) := by omega
  rw [h4]
  rfl
theorem i_i2l {x : Int} (h : in32 x) : (Int32.ofInt x).toInt64 = Int64.ofInt x := by
  apply Int64.toInt_inj.mp
  rw [Int32.toInt_toInt64, i_ti h, l_ti]
  unfold in32 at h; unfold in64; omega
theorem i_l2i {x : Int} (h : in64 x) : (Int64.ofInt x).toInt32 = Int32.ofInt (wr x) := by
  apply Int32.toInt_inj.mp
  rw [Int64.toInt_toInt32, l_ti h, i_ti (wr_in x), wr_bmod]
theorem l_cmp {x y : Int} (hx : in64 x) (hy : in64 y) : lg_cmp (Int64.ofInt x) (Int64.ofInt y) = Int32.ofInt (if x = y then 0 else if y < x then 1 else -1) := by
  unfold lg_cmp
  simp only [gt_iff_lt, l_lt hy hx, l_eq hx hy]
  by_cases h1 : x = y
  · subst h1; simp
  · by_cases h2 : y < x
    · simp [h1, h2]
    · simp [h1, h2]
theorem vp_inI {i : Int} {n : Nat} (hi : in32 i) (h0 : 0 ≤ i) (h1 : i < n) : vp_in (Int32.ofInt i) n ∧ (Int32.ofInt i).toNatClampNeg = i.toNat := by
  constructor
  · rw [vp_in_iff, i_ti hi]; omega
  · show (Int32.ofInt i).toInt.toNat = i.toNat
    rw [i_ti hi]

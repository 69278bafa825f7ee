/-! ## numbers: the machine's ints and longs by whole numbers -/
def zI32 (x : Int) : Prop := -2147483648 ≤ x ∧ x < 2147483648
def zI64 (x : Int) : Prop := -9223372036854775808 ≤ x ∧ x < 9223372036854775808
theorem zw_rng (z : Int) : zI32 (zw z) := by
  unfold zw zI32
  have h1 := Int.le_bmod (x := z) (m := 4294967296) (by decide)
  have h2 := Int.bmod_lt (x := z) (m := 4294967296) (by decide)
  omega
theorem zwl_rng (z : Int) : zI64 (zwl z) := by
  unfold zwl zI64
  have h1 := Int.le_bmod (x := z) (m := 18446744073709551616) (by decide)
  have h2 := Int.bmod_lt (x := z) (m := 18446744073709551616) (by decide)
  omega
theorem zw_id {z : Int} (h1 : -2147483648 ≤ z) (h2 : z < 2147483648) : zw z = z := by
  unfold zw
  exact Int.bmod_eq_of_le (by omega) (by omega)
theorem zwl_id {z : Int} (h1 : -9223372036854775808 ≤ z) (h2 : z < 9223372036854775808) : zwl z = z := by
  unfold zwl
  exact Int.bmod_eq_of_le (by omega) (by omega)
theorem zi_toInt {z : Int} (h : zI32 z) : (Int32.ofInt z).toInt = z := Int32.toInt_ofInt_of_le (by have := h.1; omega) (by have := h.2; omega)
theorem zl_toInt {z : Int} (h : zI64 z) : (Int64.ofInt z).toInt = z := Int64.toInt_ofInt_of_le (by have := h.1; omega) (by have := h.2; omega)
theorem zi_w (z : Int) : Int32.ofInt (zw z) = Int32.ofInt z := by
  apply Int32.toInt_inj.mp
  rw [Int32.toInt_ofInt, Int32.toInt_ofInt]
  unfold zw
  exact Int.bmod_bmod
theorem zl_w (z : Int) : Int64.ofInt (zwl z) = Int64.ofInt z := by
  apply Int64.toInt_inj.mp
  rw [Int64.toInt_ofInt, Int64.toInt_ofInt]
  unfold zwl
  exact Int.bmod_bmod
theorem zi_rng (x : Int32) : zI32 x.toInt := ⟨by have := x.le_toInt; omega, by have := x.toInt_lt; omega⟩
theorem zl_rng (x : Int64) : zI64 x.toInt := ⟨by have := x.le_toInt; omega, by have := x.toInt_lt; omega⟩
theorem zi_of (x : Int32) : Int32.ofInt x.toInt = x := Int32.ofInt_toInt x
theorem zi_add (x y : Int) : Int32.ofInt x + Int32.ofInt y = Int32.ofInt (zw (x + y)) := by
  rw [zi_w]
  apply Int32.toInt_inj.mp
  rw [Int32.toInt_add, Int32.toInt_ofInt, Int32.toInt_ofInt, Int32.toInt_ofInt]
  simp only [Int32.size]
  simp
theorem zi_sub (x y : Int) : Int32.ofInt x - Int32.ofInt y = Int32.ofInt (zw (x - y)) := by
  rw [zi_w]
  apply Int32.toInt_inj.mp
  rw [Int32.toInt_sub, Int32.toInt_ofInt, Int32.toInt_ofInt, Int32.toInt_ofInt]
  simp only [Int32.size]
  simp
theorem zi_mul (x y : Int) : Int32.ofInt x * Int32.ofInt y = Int32.ofInt (zw (x * y)) := by
  rw [zi_w]
  apply Int32.toInt_inj.mp
  rw [Int32.toInt_mul, Int32.toInt_ofInt, Int32.toInt_ofInt, Int32.toInt_ofInt]
  simp only [Int32.size]
  simp
theorem zi_neg (x : Int) : -Int32.ofInt x = Int32.ofInt (zw (-x)) := by
  rw [zi_w]
  exact Int32.neg_ofInt
theorem zi_eq {x y : Int} (hx : zI32 x) (hy : zI32 y) : Int32.ofInt x = Int32.ofInt y ↔ x = y := by
  constructor
  · intro h
    have := congrArg Int32.toInt h
    rwa [zi_toInt hx, zi_toInt hy] at this
  · intro h; rw [h]
theorem zi_le {x y : Int} (hx : zI32 x) (hy : zI32 y) : Int32.ofInt x ≤ Int32.ofInt y ↔ x ≤ y := by
  rw [Int32.le_iff_toInt_le, zi_toInt hx, zi_toInt hy]
theorem zi_lt {x y : Int} (hx : zI32 x) (hy : zI32 y) : Int32.ofInt x < Int32.ofInt y ↔ x < y := by
  rw [Int32.lt_iff_toInt_lt, zi_toInt hx, zi_toInt hy]
theorem zi_0 : Int32.ofInt 0 = 0 := rfl
theorem zi_nz {y : Int} (hy : zI32 y) (h : y ≠ 0) : ¬ Int32.ofInt y = 0 := by
  rw [← zi_0, zi_eq hy ⟨by omega, by omega⟩]; exact h
theorem zi_div {x y : Int} (hx : zI32 x) (hy : zI32 y) : Int32.ofInt x / Int32.ofInt y = Int32.ofInt (zdiv x y) := by
  unfold zdiv
  rw [zi_w]
  apply Int32.toInt_inj.mp
  rw [Int32.toInt_div, zi_toInt hx, zi_toInt hy, Int32.toInt_ofInt]
theorem ztmod_abs (x y : Int) : -(x.natAbs : Int) ≤ Int.tmod x y ∧ Int.tmod x y ≤ (x.natAbs : Int) := by
  have h : (Int.tmod x y).natAbs ≤ x.natAbs := by
    rw [Int.natAbs_tmod]; exact Nat.mod_le _ _
  omega
theorem zi_rem {x y : Int} (hx : zI32 x) (hy : zI32 y) : Int32.ofInt x - Int32.ofInt x / Int32.ofInt y * Int32.ofInt y = Int32.ofInt (zrem x y) := by
  unfold zrem
  rw [zi_div hx hy, zi_mul, zi_sub, zi_w]
  apply Int32.toInt_inj.mp
  rw [Int32.toInt_ofInt, Int32.toInt_ofInt]
  unfold zdiv zw
  have e : x - Int.tdiv x y * y = Int.tmod x y := by
    have := Int.tmod_add_mul_tdiv x y
    rw [Int.mul_comm] at this
    omega
  rw [← e]
  simp [Int32.size]
theorem zrem_rng {x y : Int} (hx : zI32 x) (hy : zI32 y) : zI32 (zrem x y) := by
  unfold zrem zI32
  have h := ztmod_abs x y
  have := hx.1; have := hx.2
  by_cases hxm : x = -2147483648
  · have h2 : Int.tmod x y ≤ 0 := by
      rcases Int.le_total 0 y with hy0 | hy0
      · have := Int.tmod_nonneg y (show (0 : Int) ≤ -x by omega)
        rw [Int.neg_tmod] at this
        omega
      · have := Int.tmod_nonneg y (show (0 : Int) ≤ -x by omega)
        rw [Int.neg_tmod] at this
        omega
    omega
  · omega
theorem zi_and (x y : Int) : Int32.ofInt x &&& Int32.ofInt y = Int32.ofInt (zand x y) := (Int32.ofInt_toInt _).symm
theorem zi_or (x y : Int) : Int32.ofInt x ||| Int32.ofInt y = Int32.ofInt (zor x y) := (Int32.ofInt_toInt _).symm
theorem zi_xor (x y : Int) : Int32.ofInt x ^^^ Int32.ofInt y = Int32.ofInt (zxor x y) := (Int32.ofInt_toInt _).symm
theorem zi_shl (x y : Int) : Int32.ofInt x <<< (Int32.ofInt y &&& 31) = Int32.ofInt (zshl x y) := (Int32.ofInt_toInt _).symm
theorem zi_shr (x y : Int) : Int32.ofInt x >>> (Int32.ofInt y &&& 31) = Int32.ofInt (zshr x y) := (Int32.ofInt_toInt _).symm
theorem zi_ushr (x y : Int) : ((Int32.ofInt x).toUInt32 >>> ((Int32.ofInt y).toUInt32 &&& Int32.toUInt32 31)).toInt32 = Int32.ofInt (zushr x y) := (Int32.ofInt_toInt _).symm
theorem zi_l {x : Int} (hx : zI32 x) : (Int32.ofInt x).toInt64 = Int64.ofInt x := by
  apply Int64.toInt_inj.mp
  rw [Int32.toInt_toInt64, zi_toInt hx, zl_toInt ⟨by have := hx.1; omega, by have := hx.2; omega⟩]
theorem zl_i {x : Int} (hx : zI64 x) : (Int64.ofInt x).toInt32 = Int32.ofInt (zw x) := by
  rw [zi_w]
  apply Int32.toInt_inj.mp
  rw [Int64.toInt_toInt32, zl_toInt hx, Int32.toInt_ofInt]
theorem zl_add (x y : Int) : Int64.ofInt x + Int64.ofInt y = Int64.ofInt (zwl (x + y)) := by
  rw [zl_w]
  apply Int64.toInt_inj.mp
  rw [Int64.toInt_add, Int64.toInt_ofInt, Int64.toInt_ofInt, Int64.toInt_ofInt]
  simp only [Int64.size]
  simp
theorem zl_mul (x y : Int) : Int64.ofInt x * Int64.ofInt y = Int64.ofInt (zwl (x * y)) := by
  rw [zl_w]
  apply Int64.toInt_inj.mp
  rw [Int64.toInt_mul, Int64.toInt_ofInt, Int64.toInt_ofInt, Int64.toInt_ofInt]
  simp only [Int64.size]
  simp
theorem zl_eq {x y : Int} (hx : zI64 x) (hy : zI64 y) : Int64.ofInt x = Int64.ofInt y ↔ x = y := by
  constructor
  · intro h
    have := congrArg Int64.toInt h
    rwa [zl_toInt hx, zl_toInt hy] at this
  · intro h; rw [h]
theorem zl_lt {x y : Int} (hx : zI64 x) (hy : zI64 y) : Int64.ofInt x < Int64.ofInt y ↔ x < y := by
  rw [Int64.lt_iff_toInt_lt, zl_toInt hx, zl_toInt hy]
theorem zl_nz {y : Int} (hy : zI64 y) (h : y ≠ 0) : ¬ Int64.ofInt y = 0 := by
  rw [show (0 : Int64) = Int64.ofInt 0 from rfl, zl_eq hy ⟨by omega, by omega⟩]; exact h
theorem zl_div {x y : Int} (hx : zI64 x) (hy : zI64 y) : Int64.ofInt x / Int64.ofInt y = Int64.ofInt (zwl (Int.tdiv x y)) := by
  rw [zl_w]
  apply Int64.toInt_inj.mp
  rw [Int64.toInt_div, zl_toInt hx, zl_toInt hy, Int64.toInt_ofInt]
theorem zi_clamp {x : Int} (hx : zI32 x) : (Int32.ofInt x).toNatClampNeg = x.toNat := Int32.toNatClampNeg_ofInt_of_le (by have := hx.1; omega) (by have := hx.2; omega)
theorem zi_in {i n : Int} (hi : zI32 i) (h0 : 0 ≤ i) (h : i < n) : vp_in (Int32.ofInt i) n.toNat := by
  refine vp_in_iff.mpr ?_
  rw [zi_toInt hi]
  omega
theorem zi_nneg {i : Int} (hi : zI32 i) (h0 : 0 ≤ i) : ¬ Int32.ofInt i < 0 := by
  rw [← zi_0, zi_lt hi ⟨by omega, by omega⟩]; omega
theorem zi_ofNat (n : Nat) : Int32.ofNat n = Int32.ofInt (n : Int) := (Int32.ofInt_eq_ofNat).symm
theorem zi2c_rng (x : Int) : 0 ≤ zi2c x ∧ zi2c x < 65536 := by unfold zi2c; omega
